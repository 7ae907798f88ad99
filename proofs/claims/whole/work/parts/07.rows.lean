theorem g_iconst {X : Cx} {cc : ByteArray} {own : String} {nL : Nat} {rm : Room} {ret : Option FieldType} {pc : Nat} {lv : List (Nat × Value)} {st : List Value} {h : Hp} {c n : Nat} {z : Int} {v : Int32} (o : Ok X cc own nL rm ret) (d : decode cc pc = .ok (.iconst z, 1)) (hv : Int32.ofInt z = v) (kk : G X nL (pc + 1) lv (.int v :: st) h c n) : G X nL pc lv (st) h c n := fun H locs ls a b l => lv_iconst o.1 o.2.1 d hv (kk H locs ls a b l)
theorem g_bipush {X : Cx} {cc : ByteArray} {own : String} {nL : Nat} {rm : Room} {ret : Option FieldType} {pc : Nat} {lv : List (Nat × Value)} {st : List Value} {h : Hp} {c n : Nat} {z : Int} {v : Int32} (o : Ok X cc own nL rm ret) (d : decode cc pc = .ok (.bipush z, 2)) (hv : (Int8.ofInt z).toInt32 = v) (kk : G X nL (pc + 2) lv (.int v :: st) h c n) : G X nL pc lv (st) h c n := fun H locs ls a b l => lv_bipush o.1 o.2.1 d hv (kk H locs ls a b l)
theorem g_sipush {X : Cx} {cc : ByteArray} {own : String} {nL : Nat} {rm : Room} {ret : Option FieldType} {pc : Nat} {lv : List (Nat × Value)} {st : List Value} {h : Hp} {c n : Nat} {z : Int} {v : Int32} (o : Ok X cc own nL rm ret) (d : decode cc pc = .ok (.sipush z, 3)) (hv : (Int16.ofInt z).toInt32 = v) (kk : G X nL (pc + 3) lv (.int v :: st) h c n) : G X nL pc lv (st) h c n := fun H locs ls a b l => lv_sipush o.1 o.2.1 d hv (kk H locs ls a b l)
theorem g_lconst {X : Cx} {cc : ByteArray} {own : String} {nL : Nat} {rm : Room} {ret : Option FieldType} {pc : Nat} {lv : List (Nat × Value)} {st : List Value} {h : Hp} {c n : Nat} {z : Fin 2} {v : Int64} (o : Ok X cc own nL rm ret) (d : decode cc pc = .ok (.lconst z, 1)) (hv : Int64.ofNat (z : Nat) = v) (kk : G X nL (pc + 1) lv (.long v :: st) h c n) : G X nL pc lv (st) h c n := fun H locs ls a b l => lv_lconst o.1 o.2.1 d hv (kk H locs ls a b l)
theorem g_iload_n {X : Cx} {cc : ByteArray} {own : String} {nL : Nat} {rm : Room} {ret : Option FieldType} {pc : Nat} {lv : List (Nat × Value)} {st : List Value} {h : Hp} {c n : Nat} {k : Fin 4} {i : Nat} {x : Int32} (j : Nat) (o : Ok X cc own nL rm ret) (d : decode cc pc = .ok (.iload_n k, 1)) (hi : (k : Nat) = i) (hj : lv[j]? = some (i, .int x)) (kk : G X nL (pc + 1) lv (.int x :: st) h c n) : G X nL pc lv (st) h c n := fun H locs ls a b l => lv_iload_n o.1 o.2.1 d hi (lv_at l j hj) (kk H locs ls a b l)
theorem g_iload {X : Cx} {cc : ByteArray} {own : String} {nL : Nat} {rm : Room} {ret : Option FieldType} {pc : Nat} {lv : List (Nat × Value)} {st : List Value} {h : Hp} {c n : Nat} {i : Nat} {x : Int32} (j : Nat) (o : Ok X cc own nL rm ret) (d : decode cc pc = .ok (.iload i, 2)) (hj : lv[j]? = some (i, .int x)) (kk : G X nL (pc + 2) lv (.int x :: st) h c n) : G X nL pc lv (st) h c n := fun H locs ls a b l => lv_iload o.1 o.2.1 d (lv_at l j hj) (kk H locs ls a b l)
theorem g_lload_n {X : Cx} {cc : ByteArray} {own : String} {nL : Nat} {rm : Room} {ret : Option FieldType} {pc : Nat} {lv : List (Nat × Value)} {st : List Value} {h : Hp} {c n : Nat} {k : Fin 4} {i : Nat} {x : Int64} (j : Nat) (o : Ok X cc own nL rm ret) (d : decode cc pc = .ok (.lload_n k, 1)) (hi : (k : Nat) = i) (hj : lv[j]? = some (i, .long x)) (kk : G X nL (pc + 1) lv (.long x :: st) h c n) : G X nL pc lv (st) h c n := fun H locs ls a b l => lv_lload_n o.1 o.2.1 d hi (lv_at l j hj) (kk H locs ls a b l)
theorem g_lload {X : Cx} {cc : ByteArray} {own : String} {nL : Nat} {rm : Room} {ret : Option FieldType} {pc : Nat} {lv : List (Nat × Value)} {st : List Value} {h : Hp} {c n : Nat} {i : Nat} {x : Int64} (j : Nat) (o : Ok X cc own nL rm ret) (d : decode cc pc = .ok (.lload i, 2)) (hj : lv[j]? = some (i, .long x)) (kk : G X nL (pc + 2) lv (.long x :: st) h c n) : G X nL pc lv (st) h c n := fun H locs ls a b l => lv_lload o.1 o.2.1 d (lv_at l j hj) (kk H locs ls a b l)
theorem g_aload_n {X : Cx} {cc : ByteArray} {own : String} {nL : Nat} {rm : Room} {ret : Option FieldType} {pc : Nat} {lv : List (Nat × Value)} {st : List Value} {h : Hp} {c n : Nat} {k : Fin 4} {i : Nat} {x : Nat} (j : Nat) (o : Ok X cc own nL rm ret) (d : decode cc pc = .ok (.aload_n k, 1)) (hi : (k : Nat) = i) (hj : lv[j]? = some (i, .ref x)) (kk : G X nL (pc + 1) lv (.ref x :: st) h c n) : G X nL pc lv (st) h c n := fun H locs ls a b l => lv_aload_n o.1 o.2.1 d hi (lv_at l j hj) (kk H locs ls a b l)
theorem g_aload {X : Cx} {cc : ByteArray} {own : String} {nL : Nat} {rm : Room} {ret : Option FieldType} {pc : Nat} {lv : List (Nat × Value)} {st : List Value} {h : Hp} {c n : Nat} {i : Nat} {x : Nat} (j : Nat) (o : Ok X cc own nL rm ret) (d : decode cc pc = .ok (.aload i, 2)) (hj : lv[j]? = some (i, .ref x)) (kk : G X nL (pc + 2) lv (.ref x :: st) h c n) : G X nL pc lv (st) h c n := fun H locs ls a b l => lv_aload o.1 o.2.1 d (lv_at l j hj) (kk H locs ls a b l)
theorem g_istore_n {X : Cx} {cc : ByteArray} {own : String} {nL : Nat} {rm : Room} {ret : Option FieldType} {pc : Nat} {lv : List (Nat × Value)} {st : List Value} {h : Hp} {c n : Nat} {k : Fin 4} {i : Nat} {x : Int32} (lv' : List (Nat × Value)) (o : Ok X cc own nL rm ret) (d : decode cc pc = .ok (.istore_n k, 1)) (hi : (k : Nat) = i) (hn : i < nL) (hl : (i, Value.int x) :: lv.filter (fun q => !(q.1 == i) && !(q.1 + 1 == i && q.2.category == 2)) = lv') (kk : G X nL (pc + 1) lv' st h c n) : G X nL pc lv (.int x :: st) h c n := fun H locs ls a b l => lv_istore_n o.1 o.2.1 d hi l hn hl (fun ls' l' => kk H locs ls' a b l')
theorem g_istore {X : Cx} {cc : ByteArray} {own : String} {nL : Nat} {rm : Room} {ret : Option FieldType} {pc : Nat} {lv : List (Nat × Value)} {st : List Value} {h : Hp} {c n : Nat} {i : Nat} {x : Int32} (lv' : List (Nat × Value)) (o : Ok X cc own nL rm ret) (d : decode cc pc = .ok (.istore i, 2)) (hn : i < nL) (hl : (i, Value.int x) :: lv.filter (fun q => !(q.1 == i) && !(q.1 + 1 == i && q.2.category == 2)) = lv') (kk : G X nL (pc + 2) lv' st h c n) : G X nL pc lv (.int x :: st) h c n := fun H locs ls a b l => lv_istore o.1 o.2.1 d l hn hl (fun ls' l' => kk H locs ls' a b l')
theorem g_lstore_n {X : Cx} {cc : ByteArray} {own : String} {nL : Nat} {rm : Room} {ret : Option FieldType} {pc : Nat} {lv : List (Nat × Value)} {st : List Value} {h : Hp} {c n : Nat} {k : Fin 4} {i : Nat} {x : Int64} (lv' : List (Nat × Value)) (o : Ok X cc own nL rm ret) (d : decode cc pc = .ok (.lstore_n k, 1)) (hi : (k : Nat) = i) (hn : i + 1 < nL) (hl : (i, Value.long x) :: lv.filter (fun q => !(q.1 == i) && (!(q.1 == i + 1) && !(q.1 + 1 == i && q.2.category == 2))) = lv') (kk : G X nL (pc + 1) lv' st h c n) : G X nL pc lv (.long x :: st) h c n := fun H locs ls a b l => lv_lstore_n o.1 o.2.1 d hi l hn hl (fun ls' l' => kk H locs ls' a b l')
theorem g_lstore {X : Cx} {cc : ByteArray} {own : String} {nL : Nat} {rm : Room} {ret : Option FieldType} {pc : Nat} {lv : List (Nat × Value)} {st : List Value} {h : Hp} {c n : Nat} {i : Nat} {x : Int64} (lv' : List (Nat × Value)) (o : Ok X cc own nL rm ret) (d : decode cc pc = .ok (.lstore i, 2)) (hn : i + 1 < nL) (hl : (i, Value.long x) :: lv.filter (fun q => !(q.1 == i) && (!(q.1 == i + 1) && !(q.1 + 1 == i && q.2.category == 2))) = lv') (kk : G X nL (pc + 2) lv' st h c n) : G X nL pc lv (.long x :: st) h c n := fun H locs ls a b l => lv_lstore o.1 o.2.1 d l hn hl (fun ls' l' => kk H locs ls' a b l')
theorem g_astore_n {X : Cx} {cc : ByteArray} {own : String} {nL : Nat} {rm : Room} {ret : Option FieldType} {pc : Nat} {lv : List (Nat × Value)} {st : List Value} {h : Hp} {c n : Nat} {k : Fin 4} {i : Nat} {x : Nat} (lv' : List (Nat × Value)) (o : Ok X cc own nL rm ret) (d : decode cc pc = .ok (.astore_n k, 1)) (hi : (k : Nat) = i) (hn : i < nL) (hl : (i, Value.ref x) :: lv.filter (fun q => !(q.1 == i) && !(q.1 + 1 == i && q.2.category == 2)) = lv') (kk : G X nL (pc + 1) lv' st h c n) : G X nL pc lv (.ref x :: st) h c n := fun H locs ls a b l => lv_astore_n o.1 o.2.1 d hi l hn hl (fun ls' l' => kk H locs ls' a b l')
theorem g_astore {X : Cx} {cc : ByteArray} {own : String} {nL : Nat} {rm : Room} {ret : Option FieldType} {pc : Nat} {lv : List (Nat × Value)} {st : List Value} {h : Hp} {c n : Nat} {i : Nat} {x : Nat} (lv' : List (Nat × Value)) (o : Ok X cc own nL rm ret) (d : decode cc pc = .ok (.astore i, 2)) (hn : i < nL) (hl : (i, Value.ref x) :: lv.filter (fun q => !(q.1 == i) && !(q.1 + 1 == i && q.2.category == 2)) = lv') (kk : G X nL (pc + 2) lv' st h c n) : G X nL pc lv (.ref x :: st) h c n := fun H locs ls a b l => lv_astore o.1 o.2.1 d l hn hl (fun ls' l' => kk H locs ls' a b l')
theorem g_iinc {X : Cx} {cc : ByteArray} {own : String} {nL : Nat} {rm : Room} {ret : Option FieldType} {pc : Nat} {lv : List (Nat × Value)} {st : List Value} {h : Hp} {c n : Nat} {i k : Nat} {z : Int} {x v : Int32} (lv' : List (Nat × Value)) (o : Ok X cc own nL rm ret) (d : decode cc pc = .ok (.iinc i z, 3)) (hk : lv[k]? = some (i, .int x)) (hv : x + Int32.ofInt z = v) (hn : i < nL) (hl : (i, Value.int v) :: lv.filter (fun q => !(q.1 == i) && !(q.1 + 1 == i && q.2.category == 2)) = lv') (kk : G X nL (pc + 3) lv' st h c n) : G X nL pc lv st h c n := fun H locs ls a b l => lv_iinc o.1 o.2.1 d l hk hv hn hl (fun ls' l' => kk H locs ls' a b l')
theorem g_sub {X : Cx} {cc : ByteArray} {own : String} {nL : Nat} {rm : Room} {ret : Option FieldType} {pc : Nat} {lv : List (Nat × Value)} {st : List Value} {h : Hp} {c n : Nat} {lv' : List (Nat × Value)} (js : List Nat) (hs : lv_pick lv js = lv') (kk : G X nL pc lv' st h c n) : G X nL pc lv st h c n := fun H locs ls a b l => kk H locs ls a b (lv_sub l js hs)
theorem g_wide {X : Cx} {cc : ByteArray} {own : String} {nL : Nat} {rm : Room} {ret : Option FieldType} {pc : Nat} {lv : List (Nat × Value)} {st : List Value} {h : Hp} {c n : Nat} {c' n' : Nat} (h1 : c ≤ c') (h2 : n ≤ n') (kk : G X nL pc lv st h c' n') : G X nL pc lv st h c n := fun H locs ls a b l => W.widen h1 h2 (kk H locs ls a b l)
theorem g_iadd {X : Cx} {cc : ByteArray} {own : String} {nL : Nat} {rm : Room} {ret : Option FieldType} {pc : Nat} {lv : List (Nat × Value)} {st : List Value} {h : Hp} {c n : Nat} {x y : Int32} (o : Ok X cc own nL rm ret) (d : decode cc pc = .ok (.iadd, 1)) (kk : G X nL (pc + 1) lv (.int (x + y) :: st) h c n) : G X nL pc lv (.int y :: .int x :: st) h c n := fun H locs ls a b l => lv_iadd o.1 o.2.1 d (kk H locs ls a b l)
theorem g_isub {X : Cx} {cc : ByteArray} {own : String} {nL : Nat} {rm : Room} {ret : Option FieldType} {pc : Nat} {lv : List (Nat × Value)} {st : List Value} {h : Hp} {c n : Nat} {x y : Int32} (o : Ok X cc own nL rm ret) (d : decode cc pc = .ok (.isub, 1)) (kk : G X nL (pc + 1) lv (.int (x - y) :: st) h c n) : G X nL pc lv (.int y :: .int x :: st) h c n := fun H locs ls a b l => lv_isub o.1 o.2.1 d (kk H locs ls a b l)
theorem g_imul {X : Cx} {cc : ByteArray} {own : String} {nL : Nat} {rm : Room} {ret : Option FieldType} {pc : Nat} {lv : List (Nat × Value)} {st : List Value} {h : Hp} {c n : Nat} {x y : Int32} (o : Ok X cc own nL rm ret) (d : decode cc pc = .ok (.imul, 1)) (kk : G X nL (pc + 1) lv (.int (x * y) :: st) h c n) : G X nL pc lv (.int y :: .int x :: st) h c n := fun H locs ls a b l => lv_imul o.1 o.2.1 d (kk H locs ls a b l)
theorem g_iand {X : Cx} {cc : ByteArray} {own : String} {nL : Nat} {rm : Room} {ret : Option FieldType} {pc : Nat} {lv : List (Nat × Value)} {st : List Value} {h : Hp} {c n : Nat} {x y : Int32} (o : Ok X cc own nL rm ret) (d : decode cc pc = .ok (.iand, 1)) (kk : G X nL (pc + 1) lv (.int (x &&& y) :: st) h c n) : G X nL pc lv (.int y :: .int x :: st) h c n := fun H locs ls a b l => lv_iand o.1 o.2.1 d (kk H locs ls a b l)
theorem g_ior {X : Cx} {cc : ByteArray} {own : String} {nL : Nat} {rm : Room} {ret : Option FieldType} {pc : Nat} {lv : List (Nat × Value)} {st : List Value} {h : Hp} {c n : Nat} {x y : Int32} (o : Ok X cc own nL rm ret) (d : decode cc pc = .ok (.ior, 1)) (kk : G X nL (pc + 1) lv (.int (x ||| y) :: st) h c n) : G X nL pc lv (.int y :: .int x :: st) h c n := fun H locs ls a b l => lv_ior o.1 o.2.1 d (kk H locs ls a b l)
theorem g_ixor {X : Cx} {cc : ByteArray} {own : String} {nL : Nat} {rm : Room} {ret : Option FieldType} {pc : Nat} {lv : List (Nat × Value)} {st : List Value} {h : Hp} {c n : Nat} {x y : Int32} (o : Ok X cc own nL rm ret) (d : decode cc pc = .ok (.ixor, 1)) (kk : G X nL (pc + 1) lv (.int (x ^^^ y) :: st) h c n) : G X nL pc lv (.int y :: .int x :: st) h c n := fun H locs ls a b l => lv_ixor o.1 o.2.1 d (kk H locs ls a b l)
theorem g_ishl {X : Cx} {cc : ByteArray} {own : String} {nL : Nat} {rm : Room} {ret : Option FieldType} {pc : Nat} {lv : List (Nat × Value)} {st : List Value} {h : Hp} {c n : Nat} {x y : Int32} (o : Ok X cc own nL rm ret) (d : decode cc pc = .ok (.ishl, 1)) (kk : G X nL (pc + 1) lv (.int (x <<< (y &&& 31)) :: st) h c n) : G X nL pc lv (.int y :: .int x :: st) h c n := fun H locs ls a b l => lv_ishl o.1 o.2.1 d (kk H locs ls a b l)
theorem g_ishr {X : Cx} {cc : ByteArray} {own : String} {nL : Nat} {rm : Room} {ret : Option FieldType} {pc : Nat} {lv : List (Nat × Value)} {st : List Value} {h : Hp} {c n : Nat} {x y : Int32} (o : Ok X cc own nL rm ret) (d : decode cc pc = .ok (.ishr, 1)) (kk : G X nL (pc + 1) lv (.int (x >>> (y &&& 31)) :: st) h c n) : G X nL pc lv (.int y :: .int x :: st) h c n := fun H locs ls a b l => lv_ishr o.1 o.2.1 d (kk H locs ls a b l)
theorem g_idiv {X : Cx} {cc : ByteArray} {own : String} {nL : Nat} {rm : Room} {ret : Option FieldType} {pc : Nat} {lv : List (Nat × Value)} {st : List Value} {h : Hp} {c n : Nat} {x y : Int32} (o : Ok X cc own nL rm ret) (d : decode cc pc = .ok (.idiv, 1)) (hne : ¬ y = 0) (kk : G X nL (pc + 1) lv (.int (x / y) :: st) h c n) : G X nL pc lv (.int y :: .int x :: st) h c n := fun H locs ls a b l => lv_idiv o.1 o.2.1 d hne (kk H locs ls a b l)
theorem g_irem {X : Cx} {cc : ByteArray} {own : String} {nL : Nat} {rm : Room} {ret : Option FieldType} {pc : Nat} {lv : List (Nat × Value)} {st : List Value} {h : Hp} {c n : Nat} {x y : Int32} (o : Ok X cc own nL rm ret) (d : decode cc pc = .ok (.irem, 1)) (hne : ¬ y = 0) (kk : G X nL (pc + 1) lv (.int (x - x / y * y) :: st) h c n) : G X nL pc lv (.int y :: .int x :: st) h c n := fun H locs ls a b l => lv_irem o.1 o.2.1 d hne (kk H locs ls a b l)
theorem g_ineg {X : Cx} {cc : ByteArray} {own : String} {nL : Nat} {rm : Room} {ret : Option FieldType} {pc : Nat} {lv : List (Nat × Value)} {st : List Value} {h : Hp} {c n : Nat} {x : Int32} (o : Ok X cc own nL rm ret) (d : decode cc pc = .ok (.ineg, 1)) (kk : G X nL (pc + 1) lv (.int (-x) :: st) h c n) : G X nL pc lv (.int x :: st) h c n := fun H locs ls a b l => lv_ineg o.1 o.2.1 d (kk H locs ls a b l)
theorem g_ladd {X : Cx} {cc : ByteArray} {own : String} {nL : Nat} {rm : Room} {ret : Option FieldType} {pc : Nat} {lv : List (Nat × Value)} {st : List Value} {h : Hp} {c n : Nat} {x y : Int64} (o : Ok X cc own nL rm ret) (d : decode cc pc = .ok (.ladd, 1)) (kk : G X nL (pc + 1) lv (.long (x + y) :: st) h c n) : G X nL pc lv (.long y :: .long x :: st) h c n := fun H locs ls a b l => lv_ladd o.1 o.2.1 d (kk H locs ls a b l)
theorem g_lsub {X : Cx} {cc : ByteArray} {own : String} {nL : Nat} {rm : Room} {ret : Option FieldType} {pc : Nat} {lv : List (Nat × Value)} {st : List Value} {h : Hp} {c n : Nat} {x y : Int64} (o : Ok X cc own nL rm ret) (d : decode cc pc = .ok (.lsub, 1)) (kk : G X nL (pc + 1) lv (.long (x - y) :: st) h c n) : G X nL pc lv (.long y :: .long x :: st) h c n := fun H locs ls a b l => lv_lsub o.1 o.2.1 d (kk H locs ls a b l)
theorem g_lmul {X : Cx} {cc : ByteArray} {own : String} {nL : Nat} {rm : Room} {ret : Option FieldType} {pc : Nat} {lv : List (Nat × Value)} {st : List Value} {h : Hp} {c n : Nat} {x y : Int64} (o : Ok X cc own nL rm ret) (d : decode cc pc = .ok (.lmul, 1)) (kk : G X nL (pc + 1) lv (.long (x * y) :: st) h c n) : G X nL pc lv (.long y :: .long x :: st) h c n := fun H locs ls a b l => lv_lmul o.1 o.2.1 d (kk H locs ls a b l)
theorem g_land {X : Cx} {cc : ByteArray} {own : String} {nL : Nat} {rm : Room} {ret : Option FieldType} {pc : Nat} {lv : List (Nat × Value)} {st : List Value} {h : Hp} {c n : Nat} {x y : Int64} (o : Ok X cc own nL rm ret) (d : decode cc pc = .ok (.land, 1)) (kk : G X nL (pc + 1) lv (.long (x &&& y) :: st) h c n) : G X nL pc lv (.long y :: .long x :: st) h c n := fun H locs ls a b l => lv_land o.1 o.2.1 d (kk H locs ls a b l)
theorem g_lor {X : Cx} {cc : ByteArray} {own : String} {nL : Nat} {rm : Room} {ret : Option FieldType} {pc : Nat} {lv : List (Nat × Value)} {st : List Value} {h : Hp} {c n : Nat} {x y : Int64} (o : Ok X cc own nL rm ret) (d : decode cc pc = .ok (.lor, 1)) (kk : G X nL (pc + 1) lv (.long (x ||| y) :: st) h c n) : G X nL pc lv (.long y :: .long x :: st) h c n := fun H locs ls a b l => lv_lor o.1 o.2.1 d (kk H locs ls a b l)
theorem g_lxor {X : Cx} {cc : ByteArray} {own : String} {nL : Nat} {rm : Room} {ret : Option FieldType} {pc : Nat} {lv : List (Nat × Value)} {st : List Value} {h : Hp} {c n : Nat} {x y : Int64} (o : Ok X cc own nL rm ret) (d : decode cc pc = .ok (.lxor, 1)) (kk : G X nL (pc + 1) lv (.long (x ^^^ y) :: st) h c n) : G X nL pc lv (.long y :: .long x :: st) h c n := fun H locs ls a b l => lv_lxor o.1 o.2.1 d (kk H locs ls a b l)
theorem g_iushr {X : Cx} {cc : ByteArray} {own : String} {nL : Nat} {rm : Room} {ret : Option FieldType} {pc : Nat} {lv : List (Nat × Value)} {st : List Value} {h : Hp} {c n : Nat} {x y : Int32} (o : Ok X cc own nL rm ret) (d : decode cc pc = .ok (.iushr, 1)) (kk : G X nL (pc + 1) lv (.int ((x.toUInt32 >>> (y.toUInt32 &&& Int32.toUInt32 31)).toInt32) :: st) h c n) : G X nL pc lv (.int y :: .int x :: st) h c n := fun H locs ls a b l => lv_iushr o.1 o.2.1 d rfl (kk H locs ls a b l)
theorem g_lushr {X : Cx} {cc : ByteArray} {own : String} {nL : Nat} {rm : Room} {ret : Option FieldType} {pc : Nat} {lv : List (Nat × Value)} {st : List Value} {h : Hp} {c n : Nat} {x : Int64} {y : Int32} (o : Ok X cc own nL rm ret) (d : decode cc pc = .ok (.lushr, 1)) (kk : G X nL (pc + 1) lv (.long ((x.toUInt64 >>> (y.toInt64.toUInt64 &&& Int64.toUInt64 63)).toInt64) :: st) h c n) : G X nL pc lv (.int y :: .long x :: st) h c n := fun H locs ls a b l => lv_lushr o.1 o.2.1 d rfl (kk H locs ls a b l)
theorem g_lshl {X : Cx} {cc : ByteArray} {own : String} {nL : Nat} {rm : Room} {ret : Option FieldType} {pc : Nat} {lv : List (Nat × Value)} {st : List Value} {h : Hp} {c n : Nat} {x : Int64} {y : Int32} (o : Ok X cc own nL rm ret) (d : decode cc pc = .ok (.lshl, 1)) (kk : G X nL (pc + 1) lv (.long (x <<< (y.toInt64 &&& 63)) :: st) h c n) : G X nL pc lv (.int y :: .long x :: st) h c n := fun H locs ls a b l => lv_lshl o.1 o.2.1 d rfl (kk H locs ls a b l)
theorem g_lshr {X : Cx} {cc : ByteArray} {own : String} {nL : Nat} {rm : Room} {ret : Option FieldType} {pc : Nat} {lv : List (Nat × Value)} {st : List Value} {h : Hp} {c n : Nat} {x : Int64} {y : Int32} (o : Ok X cc own nL rm ret) (d : decode cc pc = .ok (.lshr, 1)) (kk : G X nL (pc + 1) lv (.long (x >>> (y.toInt64 &&& 63)) :: st) h c n) : G X nL pc lv (.int y :: .long x :: st) h c n := fun H locs ls a b l => lv_lshr o.1 o.2.1 d rfl (kk H locs ls a b l)
theorem g_i2l {X : Cx} {cc : ByteArray} {own : String} {nL : Nat} {rm : Room} {ret : Option FieldType} {pc : Nat} {lv : List (Nat × Value)} {st : List Value} {h : Hp} {c n : Nat} {x : Int32} (o : Ok X cc own nL rm ret) (d : decode cc pc = .ok (.i2l, 1)) (kk : G X nL (pc + 1) lv (.long x.toInt64 :: st) h c n) : G X nL pc lv (.int x :: st) h c n := fun H locs ls a b l => lv_i2l o.1 o.2.1 d rfl (kk H locs ls a b l)
theorem g_l2i {X : Cx} {cc : ByteArray} {own : String} {nL : Nat} {rm : Room} {ret : Option FieldType} {pc : Nat} {lv : List (Nat × Value)} {st : List Value} {h : Hp} {c n : Nat} {x : Int64} (o : Ok X cc own nL rm ret) (d : decode cc pc = .ok (.l2i, 1)) (kk : G X nL (pc + 1) lv (.int x.toInt32 :: st) h c n) : G X nL pc lv (.long x :: st) h c n := fun H locs ls a b l => lv_l2i o.1 o.2.1 d rfl (kk H locs ls a b l)
theorem g_i2b {X : Cx} {cc : ByteArray} {own : String} {nL : Nat} {rm : Room} {ret : Option FieldType} {pc : Nat} {lv : List (Nat × Value)} {st : List Value} {h : Hp} {c n : Nat} {x : Int32} (o : Ok X cc own nL rm ret) (d : decode cc pc = .ok (.i2b, 1)) (kk : G X nL (pc + 1) lv (.int x.toInt8.toInt32 :: st) h c n) : G X nL pc lv (.int x :: st) h c n := fun H locs ls a b l => lv_i2b o.1 o.2.1 d rfl (kk H locs ls a b l)
theorem g_i2c {X : Cx} {cc : ByteArray} {own : String} {nL : Nat} {rm : Room} {ret : Option FieldType} {pc : Nat} {lv : List (Nat × Value)} {st : List Value} {h : Hp} {c n : Nat} {x : Int32} (o : Ok X cc own nL rm ret) (d : decode cc pc = .ok (.i2c, 1)) (kk : G X nL (pc + 1) lv (.int (x.toUInt32 % 65536).toInt32 :: st) h c n) : G X nL pc lv (.int x :: st) h c n := fun H locs ls a b l => lv_i2c o.1 o.2.1 d rfl (kk H locs ls a b l)
theorem g_lcmp {X : Cx} {cc : ByteArray} {own : String} {nL : Nat} {rm : Room} {ret : Option FieldType} {pc : Nat} {lv : List (Nat × Value)} {st : List Value} {h : Hp} {c n : Nat} {x y : Int64} (o : Ok X cc own nL rm ret) (d : decode cc pc = .ok (.lcmp, 1)) (kk : G X nL (pc + 1) lv (.int (lg_cmp x y) :: st) h c n) : G X nL pc lv (.long y :: .long x :: st) h c n := fun H locs ls a b l => W.lcmp o.1 o.2.1 d (kk H locs ls a b l)
theorem g_dup {X : Cx} {cc : ByteArray} {own : String} {nL : Nat} {rm : Room} {ret : Option FieldType} {pc : Nat} {lv : List (Nat × Value)} {st : List Value} {h : Hp} {c n : Nat} {va : Value} (o : Ok X cc own nL rm ret) (d : decode cc pc = .ok (.dup, 1)) (hva : va.category = 1) (kk : G X nL (pc + 1) lv (va :: va :: st) h c n) : G X nL pc lv (va :: st) h c n := fun H locs ls a b l => lv_dup o.1 o.2.1 d hva (kk H locs ls a b l)
theorem g_pop {X : Cx} {cc : ByteArray} {own : String} {nL : Nat} {rm : Room} {ret : Option FieldType} {pc : Nat} {lv : List (Nat × Value)} {st : List Value} {h : Hp} {c n : Nat} {va : Value} (o : Ok X cc own nL rm ret) (d : decode cc pc = .ok (.pop, 1)) (hva : va.category = 1) (kk : G X nL (pc + 1) lv (st) h c n) : G X nL pc lv (va :: st) h c n := fun H locs ls a b l => lv_pop o.1 o.2.1 d hva (kk H locs ls a b l)
theorem g_dup_x1 {X : Cx} {cc : ByteArray} {own : String} {nL : Nat} {rm : Room} {ret : Option FieldType} {pc : Nat} {lv : List (Nat × Value)} {st : List Value} {h : Hp} {c n : Nat} {va vb : Value} (o : Ok X cc own nL rm ret) (d : decode cc pc = .ok (.dup_x1, 1)) (hva : va.category = 1) (hvb : vb.category = 1) (kk : G X nL (pc + 1) lv (va :: vb :: va :: st) h c n) : G X nL pc lv (va :: vb :: st) h c n := fun H locs ls a b l => lv_dup_x1 o.1 o.2.1 d hva hvb (kk H locs ls a b l)
theorem g_dup2 {X : Cx} {cc : ByteArray} {own : String} {nL : Nat} {rm : Room} {ret : Option FieldType} {pc : Nat} {lv : List (Nat × Value)} {st : List Value} {h : Hp} {c n : Nat} {va vb : Value} (o : Ok X cc own nL rm ret) (d : decode cc pc = .ok (.dup2, 1)) (hva : va.category = 1) (hvb : vb.category = 1) (kk : G X nL (pc + 1) lv (va :: vb :: va :: vb :: st) h c n) : G X nL pc lv (va :: vb :: st) h c n := fun H locs ls a b l => lv_dup2_11 o.1 o.2.1 d hva hvb (kk H locs ls a b l)
theorem g_if_eq {X : Cx} {cc : ByteArray} {own : String} {nL : Nat} {rm : Room} {ret : Option FieldType} {pc : Nat} {lv : List (Nat × Value)} {st : List Value} {h : Hp} {c n : Nat} {x : Int32} {off : Int} (tgt : Nat) (o : Ok X cc own nL rm ret) (d : decode cc pc = .ok (.ifCond .eq off, 3)) (ht : (pc : Int) + off = (tgt : Int)) (kt : x = 0 → G X nL tgt lv st h c n) (kf : ¬ (x = 0) → G X nL (pc + 3) lv st h c n) : G X nL pc lv (.int x :: st) h c n := fun H locs ls a b l => lv_if_eq o.1 o.2.1 d ht (fun q => kt q H locs ls a b l) (fun q => kf q H locs ls a b l)
theorem g_if_ne {X : Cx} {cc : ByteArray} {own : String} {nL : Nat} {rm : Room} {ret : Option FieldType} {pc : Nat} {lv : List (Nat × Value)} {st : List Value} {h : Hp} {c n : Nat} {x : Int32} {off : Int} (tgt : Nat) (o : Ok X cc own nL rm ret) (d : decode cc pc = .ok (.ifCond .ne off, 3)) (ht : (pc : Int) + off = (tgt : Int)) (kt : x ≠ 0 → G X nL tgt lv st h c n) (kf : x = 0 → G X nL (pc + 3) lv st h c n) : G X nL pc lv (.int x :: st) h c n := fun H locs ls a b l => lv_if_ne o.1 o.2.1 d ht (fun q => kt q H locs ls a b l) (fun q => kf q H locs ls a b l)
theorem g_if_lt {X : Cx} {cc : ByteArray} {own : String} {nL : Nat} {rm : Room} {ret : Option FieldType} {pc : Nat} {lv : List (Nat × Value)} {st : List Value} {h : Hp} {c n : Nat} {x : Int32} {off : Int} (tgt : Nat) (o : Ok X cc own nL rm ret) (d : decode cc pc = .ok (.ifCond .lt off, 3)) (ht : (pc : Int) + off = (tgt : Int)) (kt : x < 0 → G X nL tgt lv st h c n) (kf : ¬ (x < 0) → G X nL (pc + 3) lv st h c n) : G X nL pc lv (.int x :: st) h c n := fun H locs ls a b l => lv_if_lt o.1 o.2.1 d ht (fun q => kt q H locs ls a b l) (fun q => kf q H locs ls a b l)
theorem g_if_ge {X : Cx} {cc : ByteArray} {own : String} {nL : Nat} {rm : Room} {ret : Option FieldType} {pc : Nat} {lv : List (Nat × Value)} {st : List Value} {h : Hp} {c n : Nat} {x : Int32} {off : Int} (tgt : Nat) (o : Ok X cc own nL rm ret) (d : decode cc pc = .ok (.ifCond .ge off, 3)) (ht : (pc : Int) + off = (tgt : Int)) (kt : 0 ≤ x → G X nL tgt lv st h c n) (kf : ¬ (0 ≤ x) → G X nL (pc + 3) lv st h c n) : G X nL pc lv (.int x :: st) h c n := fun H locs ls a b l => lv_if_ge o.1 o.2.1 d ht (fun q => kt q H locs ls a b l) (fun q => kf q H locs ls a b l)
theorem g_if_gt {X : Cx} {cc : ByteArray} {own : String} {nL : Nat} {rm : Room} {ret : Option FieldType} {pc : Nat} {lv : List (Nat × Value)} {st : List Value} {h : Hp} {c n : Nat} {x : Int32} {off : Int} (tgt : Nat) (o : Ok X cc own nL rm ret) (d : decode cc pc = .ok (.ifCond .gt off, 3)) (ht : (pc : Int) + off = (tgt : Int)) (kt : 0 < x → G X nL tgt lv st h c n) (kf : ¬ (0 < x) → G X nL (pc + 3) lv st h c n) : G X nL pc lv (.int x :: st) h c n := fun H locs ls a b l => lv_if_gt o.1 o.2.1 d ht (fun q => kt q H locs ls a b l) (fun q => kf q H locs ls a b l)
theorem g_if_le {X : Cx} {cc : ByteArray} {own : String} {nL : Nat} {rm : Room} {ret : Option FieldType} {pc : Nat} {lv : List (Nat × Value)} {st : List Value} {h : Hp} {c n : Nat} {x : Int32} {off : Int} (tgt : Nat) (o : Ok X cc own nL rm ret) (d : decode cc pc = .ok (.ifCond .le off, 3)) (ht : (pc : Int) + off = (tgt : Int)) (kt : x ≤ 0 → G X nL tgt lv st h c n) (kf : ¬ (x ≤ 0) → G X nL (pc + 3) lv st h c n) : G X nL pc lv (.int x :: st) h c n := fun H locs ls a b l => lv_if_le o.1 o.2.1 d ht (fun q => kt q H locs ls a b l) (fun q => kf q H locs ls a b l)
theorem g_icmp_eq {X : Cx} {cc : ByteArray} {own : String} {nL : Nat} {rm : Room} {ret : Option FieldType} {pc : Nat} {lv : List (Nat × Value)} {st : List Value} {h : Hp} {c n : Nat} {x y : Int32} {off : Int} (tgt : Nat) (o : Ok X cc own nL rm ret) (d : decode cc pc = .ok (.if_icmp .eq off, 3)) (ht : (pc : Int) + off = (tgt : Int)) (kt : x = y → G X nL tgt lv st h c n) (kf : ¬ (x = y) → G X nL (pc + 3) lv st h c n) : G X nL pc lv (.int y :: .int x :: st) h c n := fun H locs ls a b l => lv_icmp_eq o.1 o.2.1 d ht (fun q => kt q H locs ls a b l) (fun q => kf q H locs ls a b l)
theorem g_icmp_ne {X : Cx} {cc : ByteArray} {own : String} {nL : Nat} {rm : Room} {ret : Option FieldType} {pc : Nat} {lv : List (Nat × Value)} {st : List Value} {h : Hp} {c n : Nat} {x y : Int32} {off : Int} (tgt : Nat) (o : Ok X cc own nL rm ret) (d : decode cc pc = .ok (.if_icmp .ne off, 3)) (ht : (pc : Int) + off = (tgt : Int)) (kt : x ≠ y → G X nL tgt lv st h c n) (kf : x = y → G X nL (pc + 3) lv st h c n) : G X nL pc lv (.int y :: .int x :: st) h c n := fun H locs ls a b l => lv_icmp_ne o.1 o.2.1 d ht (fun q => kt q H locs ls a b l) (fun q => kf q H locs ls a b l)
theorem g_icmp_lt {X : Cx} {cc : ByteArray} {own : String} {nL : Nat} {rm : Room} {ret : Option FieldType} {pc : Nat} {lv : List (Nat × Value)} {st : List Value} {h : Hp} {c n : Nat} {x y : Int32} {off : Int} (tgt : Nat) (o : Ok X cc own nL rm ret) (d : decode cc pc = .ok (.if_icmp .lt off, 3)) (ht : (pc : Int) + off = (tgt : Int)) (kt : x < y → G X nL tgt lv st h c n) (kf : ¬ (x < y) → G X nL (pc + 3) lv st h c n) : G X nL pc lv (.int y :: .int x :: st) h c n := fun H locs ls a b l => lv_icmp_lt o.1 o.2.1 d ht (fun q => kt q H locs ls a b l) (fun q => kf q H locs ls a b l)
theorem g_icmp_ge {X : Cx} {cc : ByteArray} {own : String} {nL : Nat} {rm : Room} {ret : Option FieldType} {pc : Nat} {lv : List (Nat × Value)} {st : List Value} {h : Hp} {c n : Nat} {x y : Int32} {off : Int} (tgt : Nat) (o : Ok X cc own nL rm ret) (d : decode cc pc = .ok (.if_icmp .ge off, 3)) (ht : (pc : Int) + off = (tgt : Int)) (kt : y ≤ x → G X nL tgt lv st h c n) (kf : ¬ (y ≤ x) → G X nL (pc + 3) lv st h c n) : G X nL pc lv (.int y :: .int x :: st) h c n := fun H locs ls a b l => lv_icmp_ge o.1 o.2.1 d ht (fun q => kt q H locs ls a b l) (fun q => kf q H locs ls a b l)
theorem g_icmp_gt {X : Cx} {cc : ByteArray} {own : String} {nL : Nat} {rm : Room} {ret : Option FieldType} {pc : Nat} {lv : List (Nat × Value)} {st : List Value} {h : Hp} {c n : Nat} {x y : Int32} {off : Int} (tgt : Nat) (o : Ok X cc own nL rm ret) (d : decode cc pc = .ok (.if_icmp .gt off, 3)) (ht : (pc : Int) + off = (tgt : Int)) (kt : y < x → G X nL tgt lv st h c n) (kf : ¬ (y < x) → G X nL (pc + 3) lv st h c n) : G X nL pc lv (.int y :: .int x :: st) h c n := fun H locs ls a b l => lv_icmp_gt o.1 o.2.1 d ht (fun q => kt q H locs ls a b l) (fun q => kf q H locs ls a b l)
theorem g_icmp_le {X : Cx} {cc : ByteArray} {own : String} {nL : Nat} {rm : Room} {ret : Option FieldType} {pc : Nat} {lv : List (Nat × Value)} {st : List Value} {h : Hp} {c n : Nat} {x y : Int32} {off : Int} (tgt : Nat) (o : Ok X cc own nL rm ret) (d : decode cc pc = .ok (.if_icmp .le off, 3)) (ht : (pc : Int) + off = (tgt : Int)) (kt : x ≤ y → G X nL tgt lv st h c n) (kf : ¬ (x ≤ y) → G X nL (pc + 3) lv st h c n) : G X nL pc lv (.int y :: .int x :: st) h c n := fun H locs ls a b l => lv_icmp_le o.1 o.2.1 d ht (fun q => kt q H locs ls a b l) (fun q => kf q H locs ls a b l)
theorem g_goto {X : Cx} {cc : ByteArray} {own : String} {nL : Nat} {rm : Room} {ret : Option FieldType} {pc : Nat} {lv : List (Nat × Value)} {st : List Value} {h : Hp} {c n : Nat} {off : Int} (tgt : Nat) (o : Ok X cc own nL rm ret) (d : decode cc pc = .ok (.goto off, 3)) (ht : (pc : Int) + off = (tgt : Int)) (kk : G X nL tgt lv st h c n) : G X nL pc lv st h c n := fun H locs ls a b l => lv_goto o.1 o.2.1 d ht (kk H locs ls a b l)
theorem g_tabOut {X : Cx} {cc : ByteArray} {own : String} {nL : Nat} {rm : Room} {ret : Option FieldType} {pc : Nat} {lv : List (Nat × Value)} {st : List Value} {h : Hp} {c n : Nat} {x : Int32} {dflt lo hi : Int} {offs : Array Int} {len : Nat} (tgt : Nat) (o : Ok X cc own nL rm ret) (d : decode cc pc = .ok (.tableswitch dflt lo hi offs, len)) (hx : x.toInt < lo ∨ hi < x.toInt) (ht : (pc : Int) + dflt = (tgt : Int)) (kk : G X nL tgt lv st h c n) : G X nL pc lv (.int x :: st) h c n := fun H locs ls a b l => lv_tableOut o.1 o.2.1 d hx ht (kk H locs ls a b l)
theorem g_tabIn {X : Cx} {cc : ByteArray} {own : String} {nL : Nat} {rm : Room} {ret : Option FieldType} {pc : Nat} {lv : List (Nat × Value)} {st : List Value} {h : Hp} {c n : Nat} {x : Int32} {dflt lo hi off : Int} {offs : Array Int} {len : Nat} (tgt : Nat) (o : Ok X cc own nL rm ret) (d : decode cc pc = .ok (.tableswitch dflt lo hi offs, len)) (h1 : ¬ x.toInt < lo) (h2 : ¬ hi < x.toInt) (ho : offs[(x.toInt - lo).toNat]? = some off) (ht : (pc : Int) + off = (tgt : Int)) (kk : G X nL tgt lv st h c n) : G X nL pc lv (.int x :: st) h c n := fun H locs ls a b l => lv_tableIn o.1 o.2.1 d h1 h2 ho ht (kk H locs ls a b l)
theorem g_ldc {X : Cx} {cc : ByteArray} {own : String} {nL : Nat} {rm : Room} {ret : Option FieldType} {pc : Nat} {lv : List (Nat × Value)} {st : List Value} {h : Hp} {c n : Nat} {index : Nat} {v : Int32} (o : Ok X cc own nL rm ret) (d : decode cc pc = .ok (.ldc index, 2)) (hw : Cond.constant own index v ∈ GW) (kk : G X nL (pc + 2) lv (.int v :: st) h c n) : G X nL pc lv st h c n := fun H locs ls a b l => lv_ldc o.1 o.2.1 o.2.2.2.1 (o.2.2.2.2.1 _ hw) d (kk H locs ls a b l)
theorem g_ldc_w {X : Cx} {cc : ByteArray} {own : String} {nL : Nat} {rm : Room} {ret : Option FieldType} {pc : Nat} {lv : List (Nat × Value)} {st : List Value} {h : Hp} {c n : Nat} {index : Nat} {v : Int32} (o : Ok X cc own nL rm ret) (d : decode cc pc = .ok (.ldc_w index, 3)) (hw : Cond.constant own index v ∈ GW) (kk : G X nL (pc + 3) lv (.int v :: st) h c n) : G X nL pc lv st h c n := fun H locs ls a b l => lv_ldcw o.1 o.2.1 o.2.2.2.1 (o.2.2.2.2.1 _ hw) d (kk H locs ls a b l)
theorem g_ldc2_w {X : Cx} {cc : ByteArray} {own : String} {nL : Nat} {rm : Room} {ret : Option FieldType} {pc : Nat} {lv : List (Nat × Value)} {st : List Value} {h : Hp} {c n : Nat} {index : Nat} {v : Int64} (o : Ok X cc own nL rm ret) (d : decode cc pc = .ok (.ldc2_w index, 3)) (hw : Cond.constantLong own index v ∈ GW) (kk : G X nL (pc + 3) lv (.long v :: st) h c n) : G X nL pc lv st h c n := fun H locs ls a b l => lv_ldc2 o.1 o.2.1 o.2.2.2.1 (o.2.2.2.2.1 _ hw) d (kk H locs ls a b l)
/-- what is known of a class by its number -/
def CF (ci : Nat) (C : String) (T : u_T) (N : Nat) (ty : Nat → FieldType) : Prop := ci < 13 ∧ vwCl[ci]? = some (C, T, N) ∧ (∀ w ∈ u_ws C T N, w ∈ GW) ∧ (∀ k, k < N → parseFieldDescriptor (T k).2.2.1 = some (ty k)) ∧ (∀ a, a < N → ∀ b, b < N → a ≠ b → (T a).2.1 ≠ (T b).2.1)
def gf (ci k : Nat) (h : Hp) (a : Nat) : Option Value := match h a with
  | .inr (c, fs) => if c = ci then fs[k]? else none
  | .inl _ => none
def gfI (ci k : Nat) (h : Hp) (a : Nat) : Option Int32 := match gf ci k h a with
  | some (.int v) => some v
  | _ => none
def gfJ (ci k : Nat) (h : Hp) (a : Nat) : Option Int64 := match gf ci k h a with
  | some (.long v) => some v
  | _ => none
def gfN (ci k : Nat) (h : Hp) (a : Nat) : Option Nat := match gf ci k h a with
  | some (.ref v) => some v
  | _ => none
theorem gf_s {ci k : Nat} {h : Hp} {a : Nat} {v : Value} (q : gf ci k h a = some v) : ∃ fs, h a = .inr (ci, fs) ∧ fs[k]? = some v := by
  unfold gf at q
  split at q
  · next c fs e => split at q
                   · next hc => subst hc; exact ⟨fs, e, q⟩
                   · cases q
  · cases q
theorem gfI_s {ci k : Nat} {h : Hp} {a : Nat} {v : Int32} (q : gfI ci k h a = some v) : gf ci k h a = some (.int v) := by
  unfold gfI at q
  split at q
  · next e => cases q; exact e
  · cases q
theorem gfJ_s {ci k : Nat} {h : Hp} {a : Nat} {v : Int64} (q : gfJ ci k h a = some v) : gf ci k h a = some (.long v) := by
  unfold gfJ at q
  split at q
  · next e => cases q; exact e
  · cases q
theorem gfN_s {ci k : Nat} {h : Hp} {a : Nat} {v : Nat} (q : gfN ci k h a = some v) : gf ci k h a = some (.ref v) := by
  unfold gfN at q
  split at q
  · next e => cases q; exact e
  · cases q
theorem g_get {X : Cx} {cc : ByteArray} {own : String} {nL : Nat} {rm : Room} {ret : Option FieldType} {pc : Nat} {lv : List (Nat × Value)} {st : List Value} {h : Hp} {c n : Nat} {ci index a N : Nat} {C : String} {T : u_T} {ty : Nat → FieldType} {v : Value} (k : Nat) (o : Ok X cc own nL rm ret) (cf : CF ci C T N ty) (hk : k < N) (hw : Cond.fieldLink own index (T k).1 (T k).2.1 (T k).2.2.1 ∈ GW) (d : decode cc pc = .ok (.getfield index, 3)) (q : gf ci k h a = some v) (kk : G X nL (pc + 3) lv (v :: st) h c n) : G X nL pc lv (.ref a :: st) h c n := by
  intro H locs ls hAt b l
  obtain ⟨fs, e1, e2⟩ := gf_s q
  obtain ⟨L, i, hP, -, -, -, -, hi⟩ := hq_o hAt e1 cf.1
  exact va_get (D := xD X) o.1 o.2.1 o.2.2.2.2.1 cf.2.2.1 o.2.2.2.1 o.2.2.2.2.2.1 hP i hi cf.2.1 k hk (o.2.2.2.2.1 _ hw) (fun _ z => z) e2 d (kk H locs ls hAt b l)
theorem g_getI {X : Cx} {cc : ByteArray} {own : String} {nL : Nat} {rm : Room} {ret : Option FieldType} {pc : Nat} {lv : List (Nat × Value)} {st : List Value} {h : Hp} {c n : Nat} {ci index a N : Nat} {C : String} {T : u_T} {ty : Nat → FieldType} {v : Int32} (k : Nat) (o : Ok X cc own nL rm ret) (cf : CF ci C T N ty) (hk : k < N) (hw : Cond.fieldLink own index (T k).1 (T k).2.1 (T k).2.2.1 ∈ GW) (d : decode cc pc = .ok (.getfield index, 3)) (q : gfI ci k h a = some v) (kk : G X nL (pc + 3) lv (.int v :: st) h c n) : G X nL pc lv (.ref a :: st) h c n := g_get k o cf hk hw d (gfI_s q) kk
theorem g_getJ {X : Cx} {cc : ByteArray} {own : String} {nL : Nat} {rm : Room} {ret : Option FieldType} {pc : Nat} {lv : List (Nat × Value)} {st : List Value} {h : Hp} {c n : Nat} {ci index a N : Nat} {C : String} {T : u_T} {ty : Nat → FieldType} {v : Int64} (k : Nat) (o : Ok X cc own nL rm ret) (cf : CF ci C T N ty) (hk : k < N) (hw : Cond.fieldLink own index (T k).1 (T k).2.1 (T k).2.2.1 ∈ GW) (d : decode cc pc = .ok (.getfield index, 3)) (q : gfJ ci k h a = some v) (kk : G X nL (pc + 3) lv (.long v :: st) h c n) : G X nL pc lv (.ref a :: st) h c n := g_get k o cf hk hw d (gfJ_s q) kk
theorem g_getN {X : Cx} {cc : ByteArray} {own : String} {nL : Nat} {rm : Room} {ret : Option FieldType} {pc : Nat} {lv : List (Nat × Value)} {st : List Value} {h : Hp} {c n : Nat} {ci index a N : Nat} {C : String} {T : u_T} {ty : Nat → FieldType} {v : Nat} (k : Nat) (o : Ok X cc own nL rm ret) (cf : CF ci C T N ty) (hk : k < N) (hw : Cond.fieldLink own index (T k).1 (T k).2.1 (T k).2.2.1 ∈ GW) (d : decode cc pc = .ok (.getfield index, 3)) (q : gfN ci k h a = some v) (kk : G X nL (pc + 3) lv (.ref v :: st) h c n) : G X nL pc lv (.ref a :: st) h c n := g_get k o cf hk hw d (gfN_s q) kk
def pf (ci k : Nat) (h : Hp) (a : Nat) (v : Value) : Option Hp := match h a with
  | .inr (c, fs) => if c = ci ∧ k < fs.length then some (va_up h a (.inr (ci, fs.set k v))) else none
  | .inl _ => none
def pfZ (ci k : Nat) (h : Hp) (a : Nat) (v : Int32) : Option Hp := if v = 0 ∨ v = 1 then pf ci k h a (.int v) else none
theorem pf_s {ci k : Nat} {h : Hp} {a : Nat} {v : Value} {h1 : Hp} (q : pf ci k h a v = some h1) : ∃ fs, h a = .inr (ci, fs) ∧ k < fs.length ∧ h1 = va_up h a (.inr (ci, fs.set k v)) := by
  unfold pf at q
  split at q
  · next c fs e => split at q
                   · next hc => obtain ⟨rfl, hl⟩ := hc; cases q; exact ⟨fs, e, hl, rfl⟩
                   · cases q
  · cases q
theorem pfZ_s {ci k : Nat} {h : Hp} {a : Nat} {v : Int32} {h1 : Hp} (q : pfZ ci k h a v = some h1) : (v = 0 ∨ v = 1) ∧ pf ci k h a (.int v) = some h1 := by
  unfold pfZ at q
  split at q
  · next e => exact ⟨e, q⟩
  · cases q
theorem nar_z {v : Int32} (e : v = 0 ∨ v = 1) : narrow .boolean (.int v) = .int v ∧ fits .boolean (.int v) = true := by
  rcases e with rfl | rfl <;> exact ⟨by decide, by decide⟩
theorem g_put {X : Cx} {cc : ByteArray} {own : String} {nL : Nat} {rm : Room} {ret : Option FieldType} {pc : Nat} {lv : List (Nat × Value)} {st : List Value} {h : Hp} {c n : Nat} {ci index a N : Nat} {C : String} {T : u_T} {ty : Nat → FieldType} {ty1 : FieldType} {v : Value} {h1 : Hp} (k : Nat) (o : Ok X cc own nL rm ret) (cf : CF ci C T N ty) (hk : k < N) (hw : Cond.fieldLink own index (T k).1 (T k).2.1 (T k).2.2.1 ∈ GW) (hfin : (T k).2.2.2 = false) (hd : parseFieldDescriptor (T k).2.2.1 = some ty1) (hn : narrow ty1 v = v) (hfit : fits ty1 v = true) (d : decode cc pc = .ok (.putfield index, 3)) (q : pf ci k h a v = some h1) (kk : G X nL (pc + 3) lv st h1 c n) : G X nL pc lv (v :: .ref a :: st) h c n := by
  intro H locs ls hAt b l
  obtain ⟨fs, e1, e2, rfl⟩ := pf_s q
  obtain ⟨L, i, hP, hD, hL, ha, hi0, hi⟩ := hq_o hAt e1 cf.1
  exact va_put (D := xD X) o.1 o.2.1 o.2.2.2.2.1 cf.2.2.1 ty cf.2.2.2.1 cf.2.2.2.2 o.2.2.2.1 o.2.2.2.2.2.1 hP hD b i hi cf.2.1 k hk (o.2.2.2.2.1 _ hw) (fun _ z => z) hfin hd hn hfit e2 d (fun H1 locs1 hP1 hD1 hS1 => kk H1 locs1 ls (hq_set (cy := xy X) rfl hD hL ha hi0 hP1 hD1) hS1 l)
theorem g_putF {X : Cx} {cc : ByteArray} {own : String} {nL : Nat} {rm : Room} {ret : Option FieldType} {pc : Nat} {lv : List (Nat × Value)} {st : List Value} {h : Hp} {c n : Nat} {ci index a N : Nat} {C : String} {T : u_T} {ty : Nat → FieldType} {ty1 : FieldType} {v : Value} {h1 : Hp} (k : Nat) (o : Ok X cc own nL rm ret) (cf : CF ci C T N ty) (hk : k < N) (hw : Cond.fieldLink own index (T k).1 (T k).2.1 (T k).2.2.1 ∈ GW) (hfin : (T k).2.2.2 = true) (hin : (xt X).name = "<init>") (hdecl : (T k).1 = own) (hd : parseFieldDescriptor (T k).2.2.1 = some ty1) (hn : narrow ty1 v = v) (hfit : fits ty1 v = true) (d : decode cc pc = .ok (.putfield index, 3)) (q : pf ci k h a v = some h1) (kk : G X nL (pc + 3) lv st h1 c n) : G X nL pc lv (v :: .ref a :: st) h c n := by
  intro H locs ls hAt b l
  obtain ⟨fs, e1, e2, rfl⟩ := pf_s q
  obtain ⟨L, i, hP, hD, hL, ha, hi0, hi⟩ := hq_o hAt e1 cf.1
  exact va_putF (D := xD X) o.1 o.2.1 o.2.2.2.2.1 cf.2.2.1 ty cf.2.2.2.1 cf.2.2.2.2 o.2.2.2.1 o.2.2.2.2.2.1 hP hD b i hi cf.2.1 k hk (o.2.2.2.2.1 _ hw) (fun _ z => z) hfin hin hdecl hd hn hfit e2 d (fun H1 locs1 hP1 hD1 hS1 => kk H1 locs1 ls (hq_set (cy := xy X) rfl hD hL ha hi0 hP1 hD1) hS1 l)
def al (t : Nat) (h : Hp) (a : Nat) : Option vp_A := match h a with
  | .inl (k, x) => if k = t then some x else none
  | .inr _ => none
theorem al_s {t : Nat} {h : Hp} {a : Nat} {x : vp_A} (q : al t h a = some x) : h a = .inl (t, x) := by
  unfold al at q
  split at q
  · next k y e => split at q
                  · next hc => subst hc; cases q; exact e
                  · cases q
  · cases q
def alI (t : Nat) (h : Hp) (a : Nat) : Option (Nat × (Nat → Int32)) := match al t h a with
  | some (n, .inl f) => some (n, f)
  | _ => none
def alJ (t : Nat) (h : Hp) (a : Nat) : Option (Nat × (Nat → Int64)) := match al t h a with
  | some (n, .inr (.inl f)) => some (n, f)
  | _ => none
def alQ (t : Nat) (h : Hp) (a : Nat) : Option (Nat × (Nat → Option Nat)) := match al t h a with
  | some (n, .inr (.inr (.inr (.inr f)))) => some (n, f)
  | _ => none
theorem alI_s {t : Nat} {h : Hp} {a n : Nat} {f : Nat → Int32} (q : alI t h a = some (n, f)) : h a = .inl (t, (n, .inl f)) := by
  unfold alI at q
  split at q
  · next e => cases q; exact al_s e
  · cases q
theorem alJ_s {t : Nat} {h : Hp} {a n : Nat} {f : Nat → Int64} (q : alJ t h a = some (n, f)) : h a = .inl (t, (n, .inr (.inl f))) := by
  unfold alJ at q
  split at q
  · next e => cases q; exact al_s e
  · cases q
theorem alQ_s {t : Nat} {h : Hp} {a n : Nat} {f : Nat → Option Nat} (q : alQ t h a = some (n, f)) : h a = .inl (t, (n, .inr (.inr (.inr (.inr f))))) := by
  unfold alQ at q
  split at q
  · next e => cases q; exact al_s e
  · cases q
def inB (i : Int32) (n : Nat) : Bool := !(decide (i < 0)) && decide (i.toNatClampNeg < n)
theorem inB_s {i : Int32} {n : Nat} (q : inB i n = true) : vp_in i n := by
  unfold inB at q
  simp only [Bool.and_eq_true, Bool.not_eq_true', decide_eq_false_iff_not, decide_eq_true_eq] at q
  exact fun z => z.elim q.1 (fun z => Nat.not_le.mpr q.2 z)
def ldI (t : Nat) (h : Hp) (a : Nat) (i : Int32) : Option Int32 := (alI t h a).bind fun x => if inB i x.1 then some (x.2 i.toNatClampNeg) else none
def ldJ (t : Nat) (h : Hp) (a : Nat) (i : Int32) : Option Int64 := (alJ t h a).bind fun x => if inB i x.1 then some (x.2 i.toNatClampNeg) else none
def ldQ (t : Nat) (h : Hp) (a : Nat) (i : Int32) : Option (Option Nat) := (alQ t h a).bind fun x => if inB i x.1 then some (x.2 i.toNatClampNeg) else none
def ldN (t : Nat) (h : Hp) (a : Nat) (i : Int32) : Option Nat := (ldQ t h a i).bind id
def stI (t : Nat) (h : Hp) (a : Nat) (i v : Int32) : Option Hp := (alI t h a).bind fun x => if inB i x.1 then some (va_up h a (.inl (t, (x.1, .inl (upd x.2 i.toNatClampNeg v))))) else none
def stB (t : Nat) (h : Hp) (a : Nat) (i v : Int32) : Option Hp := (alI t h a).bind fun x => if inB i x.1 then some (va_up h a (.inl (t, (x.1, .inl (upd x.2 i.toNatClampNeg (vp_nar .byte v)))))) else none
def stZ (t : Nat) (h : Hp) (a : Nat) (i v : Int32) : Option Hp := (alI t h a).bind fun x => if inB i x.1 then some (va_up h a (.inl (t, (x.1, .inl (upd x.2 i.toNatClampNeg (vp_nar .boolean v)))))) else none
def stJ (t : Nat) (h : Hp) (a : Nat) (i : Int32) (v : Int64) : Option Hp := (alJ t h a).bind fun x => if inB i x.1 then some (va_up h a (.inl (t, (x.1, .inr (.inl (vp_updL x.2 i.toNatClampNeg v)))))) else none
def stQ (t : Nat) (h : Hp) (a : Nat) (i : Int32) (v : Option Nat) : Option Hp := (alQ t h a).bind fun x => if inB i x.1 then some (va_up h a (.inl (t, (x.1, .inr (.inr (.inr (.inr (va_up x.2 i.toNatClampNeg v)))))))) else none
theorem ob {α β : Type} {x : Option α} {f : α → Option β} {y : β} (e : x.bind f = some y) : ∃ a, x = some a ∧ f a = some y := Option.bind_eq_some_iff.mp e
theorem oi {α : Type} {c : Prop} [Decidable c] {x y : α} (e : (if c then some x else none) = some y) : c ∧ x = y := by
  split at e
  · next q => exact ⟨q, Option.some.inj e⟩
  · cases e
def aln (t : Nat) (h : Hp) (a : Nat) : Option Int32 := (al t h a).bind fun x => some (Int32.ofNat x.1)
theorem g_bald {X : Cx} {cc : ByteArray} {own : String} {nL : Nat} {rm : Room} {ret : Option FieldType} {pc : Nat} {lv : List (Nat × Value)} {st : List Value} {h : Hp} {c n : Nat} {a : Nat} {i : Int32} {v : Int32} (o : Ok X cc own nL rm ret) (d : decode cc pc = .ok (.baload, 1)) (q : ldI 0 h a i = some v) (kk : G X nL (pc + 1) lv (.int v :: st) h c n) : G X nL pc lv (.int i :: .ref a :: st) h c n := by
  intro H locs ls hAt b l
  obtain ⟨⟨z, f⟩, q1, q2⟩ := ob q
  obtain ⟨q3, rfl⟩ := oi q2
  obtain ⟨L, j, hP, -, -, -, -, hj⟩ := hq_a hAt (alI_s q1)
  exact va_bald o.1 o.2.1 o.2.2.2.2.2.1 hP j 0 hj rfl (inB_s q3) d (kk H locs ls hAt b l)
theorem g_iald {X : Cx} {cc : ByteArray} {own : String} {nL : Nat} {rm : Room} {ret : Option FieldType} {pc : Nat} {lv : List (Nat × Value)} {st : List Value} {h : Hp} {c n : Nat} {a : Nat} {i : Int32} {v : Int32} (o : Ok X cc own nL rm ret) (d : decode cc pc = .ok (.iaload, 1)) (q : ldI 1 h a i = some v) (kk : G X nL (pc + 1) lv (.int v :: st) h c n) : G X nL pc lv (.int i :: .ref a :: st) h c n := by
  intro H locs ls hAt b l
  obtain ⟨⟨z, f⟩, q1, q2⟩ := ob q
  obtain ⟨q3, rfl⟩ := oi q2
  obtain ⟨L, j, hP, -, -, -, -, hj⟩ := hq_a hAt (alI_s q1)
  exact va_iald o.1 o.2.1 o.2.2.2.2.2.1 hP j 1 hj rfl (inB_s q3) d (kk H locs ls hAt b l)
theorem g_zald {X : Cx} {cc : ByteArray} {own : String} {nL : Nat} {rm : Room} {ret : Option FieldType} {pc : Nat} {lv : List (Nat × Value)} {st : List Value} {h : Hp} {c n : Nat} {a : Nat} {i : Int32} {v : Int32} (o : Ok X cc own nL rm ret) (d : decode cc pc = .ok (.baload, 1)) (q : ldI 3 h a i = some v) (kk : G X nL (pc + 1) lv (.int v :: st) h c n) : G X nL pc lv (.int i :: .ref a :: st) h c n := by
  intro H locs ls hAt b l
  obtain ⟨⟨z, f⟩, q1, q2⟩ := ob q
  obtain ⟨q3, rfl⟩ := oi q2
  obtain ⟨L, j, hP, -, -, -, -, hj⟩ := hq_a hAt (alI_s q1)
  exact va_zald o.1 o.2.1 o.2.2.2.2.2.1 hP j 3 hj rfl (inB_s q3) d (kk H locs ls hAt b l)
theorem g_lald {X : Cx} {cc : ByteArray} {own : String} {nL : Nat} {rm : Room} {ret : Option FieldType} {pc : Nat} {lv : List (Nat × Value)} {st : List Value} {h : Hp} {c n : Nat} {a : Nat} {i : Int32} {v : Int64} (o : Ok X cc own nL rm ret) (d : decode cc pc = .ok (.laload, 1)) (q : ldJ 2 h a i = some v) (kk : G X nL (pc + 1) lv (.long v :: st) h c n) : G X nL pc lv (.int i :: .ref a :: st) h c n := by
  intro H locs ls hAt b l
  obtain ⟨⟨z, f⟩, q1, q2⟩ := ob q
  obtain ⟨q3, rfl⟩ := oi q2
  obtain ⟨L, j, hP, -, -, -, -, hj⟩ := hq_a hAt (alJ_s q1)
  exact va_lald o.1 o.2.1 o.2.2.2.2.2.1 hP j 2 hj rfl (inB_s q3) d (kk H locs ls hAt b l)
theorem g_bast {X : Cx} {cc : ByteArray} {own : String} {nL : Nat} {rm : Room} {ret : Option FieldType} {pc : Nat} {lv : List (Nat × Value)} {st : List Value} {h : Hp} {c n : Nat} {a : Nat} {i : Int32} {v : Int32} {h1 : Hp} (o : Ok X cc own nL rm ret) (d : decode cc pc = .ok (.bastore, 1)) (q : stB 0 h a i v = some h1) (kk : G X nL (pc + 1) lv st h1 c n) : G X nL pc lv (.int v :: .int i :: .ref a :: st) h c n := by
  intro H locs ls hAt b l
  obtain ⟨⟨z, f⟩, q1, q2⟩ := ob q
  obtain ⟨q3, rfl⟩ := oi q2
  obtain ⟨L, j, hP, hD, hL, ha, hj0, hj⟩ := hq_a hAt (alI_s q1)
  exact va_bast o.1 o.2.1 o.2.2.2.2.2.1 hP hD b j 0 hj rfl (inB_s q3) d (fun H1 locs1 hP1 hD1 hS1 => kk H1 locs1 ls (hq_set (cy := xy X) rfl hD hL ha hj0 hP1 hD1) hS1 l)
theorem g_iast {X : Cx} {cc : ByteArray} {own : String} {nL : Nat} {rm : Room} {ret : Option FieldType} {pc : Nat} {lv : List (Nat × Value)} {st : List Value} {h : Hp} {c n : Nat} {a : Nat} {i : Int32} {v : Int32} {h1 : Hp} (o : Ok X cc own nL rm ret) (d : decode cc pc = .ok (.iastore, 1)) (q : stI 1 h a i v = some h1) (kk : G X nL (pc + 1) lv st h1 c n) : G X nL pc lv (.int v :: .int i :: .ref a :: st) h c n := by
  intro H locs ls hAt b l
  obtain ⟨⟨z, f⟩, q1, q2⟩ := ob q
  obtain ⟨q3, rfl⟩ := oi q2
  obtain ⟨L, j, hP, hD, hL, ha, hj0, hj⟩ := hq_a hAt (alI_s q1)
  exact va_iast o.1 o.2.1 o.2.2.2.2.2.1 hP hD b j 1 hj rfl (inB_s q3) d (fun H1 locs1 hP1 hD1 hS1 => kk H1 locs1 ls (hq_set (cy := xy X) rfl hD hL ha hj0 hP1 hD1) hS1 l)
theorem g_zast {X : Cx} {cc : ByteArray} {own : String} {nL : Nat} {rm : Room} {ret : Option FieldType} {pc : Nat} {lv : List (Nat × Value)} {st : List Value} {h : Hp} {c n : Nat} {a : Nat} {i : Int32} {v : Int32} {h1 : Hp} (o : Ok X cc own nL rm ret) (d : decode cc pc = .ok (.bastore, 1)) (q : stZ 3 h a i v = some h1) (kk : G X nL (pc + 1) lv st h1 c n) : G X nL pc lv (.int v :: .int i :: .ref a :: st) h c n := by
  intro H locs ls hAt b l
  obtain ⟨⟨z, f⟩, q1, q2⟩ := ob q
  obtain ⟨q3, rfl⟩ := oi q2
  obtain ⟨L, j, hP, hD, hL, ha, hj0, hj⟩ := hq_a hAt (alI_s q1)
  exact va_zast o.1 o.2.1 o.2.2.2.2.2.1 hP hD b j 3 hj rfl (inB_s q3) d (fun H1 locs1 hP1 hD1 hS1 => kk H1 locs1 ls (hq_set (cy := xy X) rfl hD hL ha hj0 hP1 hD1) hS1 l)
theorem g_last {X : Cx} {cc : ByteArray} {own : String} {nL : Nat} {rm : Room} {ret : Option FieldType} {pc : Nat} {lv : List (Nat × Value)} {st : List Value} {h : Hp} {c n : Nat} {a : Nat} {i : Int32} {v : Int64} {h1 : Hp} (o : Ok X cc own nL rm ret) (d : decode cc pc = .ok (.lastore, 1)) (q : stJ 2 h a i v = some h1) (kk : G X nL (pc + 1) lv st h1 c n) : G X nL pc lv (.long v :: .int i :: .ref a :: st) h c n := by
  intro H locs ls hAt b l
  obtain ⟨⟨z, f⟩, q1, q2⟩ := ob q
  obtain ⟨q3, rfl⟩ := oi q2
  obtain ⟨L, j, hP, hD, hL, ha, hj0, hj⟩ := hq_a hAt (alJ_s q1)
  exact va_last o.1 o.2.1 o.2.2.2.2.2.1 hP hD b j 2 hj rfl (inB_s q3) d (fun H1 locs1 hP1 hD1 hS1 => kk H1 locs1 ls (hq_set (cy := xy X) rfl hD hL ha hj0 hP1 hD1) hS1 l)
theorem g_alen {X : Cx} {cc : ByteArray} {own : String} {nL : Nat} {rm : Room} {ret : Option FieldType} {pc : Nat} {lv : List (Nat × Value)} {st : List Value} {h : Hp} {c n : Nat} {a t : Nat} {v : Int32} (ht : t < 6) (o : Ok X cc own nL rm ret) (d : decode cc pc = .ok (.arraylength, 1)) (q : aln t h a = some v) (kk : G X nL (pc + 1) lv (.int v :: st) h c n) : G X nL pc lv (.ref a :: st) h c n := by
  intro H locs ls hAt b l
  obtain ⟨x, q1, q2⟩ := ob q
  cases q2
  obtain ⟨L, j, hP, -, -, -, -, hj⟩ := hq_a hAt (al_s q1)
  have htt : ∃ ty, (tysL (xy X))[t]? = some (xy X t, ty) := by
    rcases (show t = 0 ∨ t = 1 ∨ t = 2 ∨ t = 3 ∨ t = 4 ∨ t = 5 by omega) with rfl | rfl | rfl | rfl | rfl | rfl <;> exact ⟨_, rfl⟩
  obtain ⟨ty, htt⟩ := htt
  exact va_alen o.1 o.2.1 o.2.2.2.2.2.1 hP j t hj htt rfl d (kk H locs ls hAt b l)
theorem g_iret {X : Cx} {cc : ByteArray} {own : String} {nL : Nat} {rm : Room} {pc : Nat} {lv : List (Nat × Value)} {h : Hp} {c n : Nat} {v : Int32} (o : Ok X cc own nL rm (some .int)) (d : decode cc pc = .ok (.ireturn, 1)) (q : Rt X (some (.int v)) h c n) : G X nL pc lv [.int v] h c n := by
  intro H locs ls hAt b l
  rw [show xQ X = _ from q]
  exact W.iret o.1 o.2.1 o.2.2.2.2.2.2.2.2.2.1 (fun t ht hW => ⟨rfl, by rw [ht]; exact hAt, va_K.moved hW.alike o.2.2.2.2.2.1, b.F ht, cst_move o.2.2.2.2.2.2.2.2.2.2 b hW ht⟩) b.2.2 d o.2.2.2.2.2.2.2.2.1
theorem g_lret {X : Cx} {cc : ByteArray} {own : String} {nL : Nat} {rm : Room} {pc : Nat} {lv : List (Nat × Value)} {h : Hp} {c n : Nat} {v : Int64} (o : Ok X cc own nL rm (some .long)) (d : decode cc pc = .ok (.lreturn, 1)) (q : Rt X (some (.long v)) h c n) : G X nL pc lv [.long v] h c n := by
  intro H locs ls hAt b l
  rw [show xQ X = _ from q]
  exact W.lret o.1 o.2.1 o.2.2.2.2.2.2.2.2.2.1 (fun t ht hW => ⟨rfl, by rw [ht]; exact hAt, va_K.moved hW.alike o.2.2.2.2.2.1, b.F ht, cst_move o.2.2.2.2.2.2.2.2.2.2 b hW ht⟩) b.2.2 d o.2.2.2.2.2.2.2.2.1
theorem g_vret {X : Cx} {cc : ByteArray} {own : String} {nL : Nat} {rm : Room} {pc : Nat} {lv : List (Nat × Value)} {h : Hp} {c n : Nat} (o : Ok X cc own nL rm (none)) (d : decode cc pc = .ok (.return_, 1)) (q : Rt X none h c n) : G X nL pc lv [] h c n := by
  intro H locs ls hAt b l
  rw [show xQ X = _ from q]
  exact W.vret o.1 o.2.1 o.2.2.2.2.2.2.2.2.2.1 (fun t ht hW => ⟨rfl, by rw [ht]; exact hAt, va_K.moved hW.alike o.2.2.2.2.2.1, b.F ht, cst_move o.2.2.2.2.2.2.2.2.2.2 b hW ht⟩) b.2.2 d o.2.2.2.2.2.2.2.2.1
theorem g_zret {X : Cx} {cc : ByteArray} {own : String} {nL : Nat} {rm : Room} {pc : Nat} {lv : List (Nat × Value)} {h : Hp} {c n : Nat} {v : Int32} (o : Ok X cc own nL rm (some .boolean)) (d : decode cc pc = .ok (.ireturn, 1)) (hv : v = 0 ∨ v = 1) (q : Rt X (some (.int v)) h c n) : G X nL pc lv [.int v] h c n := by
  intro H locs ls hAt b l
  rw [show xQ X = _ from q]
  exact W.zret o.1 o.2.1 o.2.2.2.2.2.2.2.2.2.1 (nar_z hv).1 (fun t ht hW => ⟨rfl, by rw [ht]; exact hAt, va_K.moved hW.alike o.2.2.2.2.2.1, b.F ht, cst_move o.2.2.2.2.2.2.2.2.2.2 b hW ht⟩) b.2.2 d o.2.2.2.2.2.2.2.2.1
