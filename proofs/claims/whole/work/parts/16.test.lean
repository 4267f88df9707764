theorem tq_mna {p : Program} {l : Launch} {e : Env} {R : Room} {s : State} {m : MethodId} {args : Array Value} {below : List Frame} {meth : Method} {c : Code} {T : State} {locs : List Loc} {cells slots : Nat} (X : Stand p l e R s m args below meth c T locs cells slots) : True := by
  have := @Jvm.Stand.multianewarray2F p l e R s m args below meth c T locs cells slots X
  trivial
theorem tq_ao := @Cond.arrayOver_specB
