/-! One-instruction rules of the walk. -/
section Rules
variable {E : tb_E} {k : tb_MD} {d rc rs pc pc' : Nat} {L : List tb_L} {S : List tb_V} {M : tb_M} {Q : tb_O → tb_M → Prop}
theorem tb_iconst {n : Int} (v : Int32) (hv : Int32.ofInt n = v) (hd : decode k.2.1 pc = .ok (.iconst n, 1)) (hp : pc + 1 = pc') (kk : tb_Wp E k d rc rs pc' L (.inl v :: S) M Q) : tb_Wp E k d rc rs pc L (S) M Q := by
  subst hp
  intro p e R s m args below meth c H locs cells slots mc ms ls C hl hH hS h1 h2 hR
  exact lv_iconst C.1 C.2.1 hd hv (kk p e R s m args below meth c H locs cells slots mc ms ls C hl hH hS h1 h2 hR)
theorem tb_bipush {n : Int} (v : Int32) (hv : (Int8.ofInt n).toInt32 = v) (hd : decode k.2.1 pc = .ok (.bipush n, 2)) (hp : pc + 2 = pc') (kk : tb_Wp E k d rc rs pc' L (.inl v :: S) M Q) : tb_Wp E k d rc rs pc L (S) M Q := by
  subst hp
  intro p e R s m args below meth c H locs cells slots mc ms ls C hl hH hS h1 h2 hR
  exact lv_bipush C.1 C.2.1 hd hv (kk p e R s m args below meth c H locs cells slots mc ms ls C hl hH hS h1 h2 hR)
theorem tb_sipush {n : Int} (v : Int32) (hv : (Int16.ofInt n).toInt32 = v) (hd : decode k.2.1 pc = .ok (.sipush n, 3)) (hp : pc + 3 = pc') (kk : tb_Wp E k d rc rs pc' L (.inl v :: S) M Q) : tb_Wp E k d rc rs pc L (S) M Q := by
  subst hp
  intro p e R s m args below meth c H locs cells slots mc ms ls C hl hH hS h1 h2 hR
  exact lv_sipush C.1 C.2.1 hd hv (kk p e R s m args below meth c H locs cells slots mc ms ls C hl hH hS h1 h2 hR)
theorem tb_null (hd : decode k.2.1 pc = .ok (.aconst_null, 1)) (hp : pc + 1 = pc') (kk : tb_Wp E k d rc rs pc' L (.inr (.inl 0) :: S) M Q) : tb_Wp E k d rc rs pc L (S) M Q := by
  subst hp
  intro p e R s m args below meth c H locs cells slots mc ms ls C hl hH hS h1 h2 hR
  exact lv_null C.1 C.2.1 hd (kk p e R s m args below meth c H locs cells slots mc ms ls C hl hH hS h1 h2 hR)
theorem tb_iadd {x y : Int32} (hd : decode k.2.1 pc = .ok (.iadd, 1)) (hp : pc + 1 = pc') (kk : tb_Wp E k d rc rs pc' L (.inl (x + y) :: S) M Q) : tb_Wp E k d rc rs pc L (.inl y :: .inl x :: S) M Q := by
  subst hp
  intro p e R s m args below meth c H locs cells slots mc ms ls C hl hH hS h1 h2 hR
  exact lv_iadd C.1 C.2.1 hd (kk p e R s m args below meth c H locs cells slots mc ms ls C hl hH hS h1 h2 hR)
theorem tb_isub {x y : Int32} (hd : decode k.2.1 pc = .ok (.isub, 1)) (hp : pc + 1 = pc') (kk : tb_Wp E k d rc rs pc' L (.inl (x - y) :: S) M Q) : tb_Wp E k d rc rs pc L (.inl y :: .inl x :: S) M Q := by
  subst hp
  intro p e R s m args below meth c H locs cells slots mc ms ls C hl hH hS h1 h2 hR
  exact lv_isub C.1 C.2.1 hd (kk p e R s m args below meth c H locs cells slots mc ms ls C hl hH hS h1 h2 hR)
theorem tb_imul {x y : Int32} (hd : decode k.2.1 pc = .ok (.imul, 1)) (hp : pc + 1 = pc') (kk : tb_Wp E k d rc rs pc' L (.inl (x * y) :: S) M Q) : tb_Wp E k d rc rs pc L (.inl y :: .inl x :: S) M Q := by
  subst hp
  intro p e R s m args below meth c H locs cells slots mc ms ls C hl hH hS h1 h2 hR
  exact lv_imul C.1 C.2.1 hd (kk p e R s m args below meth c H locs cells slots mc ms ls C hl hH hS h1 h2 hR)
theorem tb_iand {x y : Int32} (hd : decode k.2.1 pc = .ok (.iand, 1)) (hp : pc + 1 = pc') (kk : tb_Wp E k d rc rs pc' L (.inl (x &&& y) :: S) M Q) : tb_Wp E k d rc rs pc L (.inl y :: .inl x :: S) M Q := by
  subst hp
  intro p e R s m args below meth c H locs cells slots mc ms ls C hl hH hS h1 h2 hR
  exact lv_iand C.1 C.2.1 hd (kk p e R s m args below meth c H locs cells slots mc ms ls C hl hH hS h1 h2 hR)
theorem tb_ior {x y : Int32} (hd : decode k.2.1 pc = .ok (.ior, 1)) (hp : pc + 1 = pc') (kk : tb_Wp E k d rc rs pc' L (.inl (x ||| y) :: S) M Q) : tb_Wp E k d rc rs pc L (.inl y :: .inl x :: S) M Q := by
  subst hp
  intro p e R s m args below meth c H locs cells slots mc ms ls C hl hH hS h1 h2 hR
  exact lv_ior C.1 C.2.1 hd (kk p e R s m args below meth c H locs cells slots mc ms ls C hl hH hS h1 h2 hR)
theorem tb_ixor {x y : Int32} (hd : decode k.2.1 pc = .ok (.ixor, 1)) (hp : pc + 1 = pc') (kk : tb_Wp E k d rc rs pc' L (.inl (x ^^^ y) :: S) M Q) : tb_Wp E k d rc rs pc L (.inl y :: .inl x :: S) M Q := by
  subst hp
  intro p e R s m args below meth c H locs cells slots mc ms ls C hl hH hS h1 h2 hR
  exact lv_ixor C.1 C.2.1 hd (kk p e R s m args below meth c H locs cells slots mc ms ls C hl hH hS h1 h2 hR)
theorem tb_ishl {x y : Int32} (hd : decode k.2.1 pc = .ok (.ishl, 1)) (hp : pc + 1 = pc') (kk : tb_Wp E k d rc rs pc' L (.inl (x <<< (y &&& 31)) :: S) M Q) : tb_Wp E k d rc rs pc L (.inl y :: .inl x :: S) M Q := by
  subst hp
  intro p e R s m args below meth c H locs cells slots mc ms ls C hl hH hS h1 h2 hR
  exact lv_ishl C.1 C.2.1 hd (kk p e R s m args below meth c H locs cells slots mc ms ls C hl hH hS h1 h2 hR)
theorem tb_ishr {x y : Int32} (hd : decode k.2.1 pc = .ok (.ishr, 1)) (hp : pc + 1 = pc') (kk : tb_Wp E k d rc rs pc' L (.inl (x >>> (y &&& 31)) :: S) M Q) : tb_Wp E k d rc rs pc L (.inl y :: .inl x :: S) M Q := by
  subst hp
  intro p e R s m args below meth c H locs cells slots mc ms ls C hl hH hS h1 h2 hR
  exact lv_ishr C.1 C.2.1 hd (kk p e R s m args below meth c H locs cells slots mc ms ls C hl hH hS h1 h2 hR)
theorem tb_irem {x y : Int32} (hne : ¬ y = 0) (hd : decode k.2.1 pc = .ok (.irem, 1)) (hp : pc + 1 = pc') (kk : tb_Wp E k d rc rs pc' L (.inl (x - x / y * y) :: S) M Q) : tb_Wp E k d rc rs pc L (.inl y :: .inl x :: S) M Q := by
  subst hp
  intro p e R s m args below meth c H locs cells slots mc ms ls C hl hH hS h1 h2 hR
  exact lv_irem C.1 C.2.1 hd hne (kk p e R s m args below meth c H locs cells slots mc ms ls C hl hH hS h1 h2 hR)
theorem tb_i2s {x : Int32} (hd : decode k.2.1 pc = .ok (.i2s, 1)) (hp : pc + 1 = pc') (kk : tb_Wp E k d rc rs pc' L (.inl x.toInt16.toInt32 :: S) M Q) : tb_Wp E k d rc rs pc L (.inl x :: S) M Q := by
  subst hp
  intro p e R s m args below meth c H locs cells slots mc ms ls C hl hH hS h1 h2 hR
  exact lv_i2s C.1 C.2.1 hd rfl (kk p e R s m args below meth c H locs cells slots mc ms ls C hl hH hS h1 h2 hR)
theorem tb_i2c {x : Int32} (hd : decode k.2.1 pc = .ok (.i2c, 1)) (hp : pc + 1 = pc') (kk : tb_Wp E k d rc rs pc' L (.inl (x.toUInt32 % 65536).toInt32 :: S) M Q) : tb_Wp E k d rc rs pc L (.inl x :: S) M Q := by
  subst hp
  intro p e R s m args below meth c H locs cells slots mc ms ls C hl hH hS h1 h2 hR
  exact lv_i2c C.1 C.2.1 hd rfl (kk p e R s m args below meth c H locs cells slots mc ms ls C hl hH hS h1 h2 hR)
theorem tb_i2l {x : Int32} (hd : decode k.2.1 pc = .ok (.i2l, 1)) (hp : pc + 1 = pc') (kk : tb_Wp E k d rc rs pc' L (.inr (.inr x.toInt64) :: S) M Q) : tb_Wp E k d rc rs pc L (.inl x :: S) M Q := by
  subst hp
  intro p e R s m args below meth c H locs cells slots mc ms ls C hl hH hS h1 h2 hR
  exact lv_i2l C.1 C.2.1 hd rfl (kk p e R s m args below meth c H locs cells slots mc ms ls C hl hH hS h1 h2 hR)
theorem tb_dupi {x : Int32} (hd : decode k.2.1 pc = .ok (.dup, 1)) (hp : pc + 1 = pc') (kk : tb_Wp E k d rc rs pc' L (.inl x :: .inl x :: S) M Q) : tb_Wp E k d rc rs pc L (.inl x :: S) M Q := by
  subst hp
  intro p e R s m args below meth c H locs cells slots mc ms ls C hl hH hS h1 h2 hR
  exact lv_dup (va := .int x) C.1 C.2.1 hd rfl (kk p e R s m args below meth c H locs cells slots mc ms ls C hl hH hS h1 h2 hR)
theorem tb_rcat (E : tb_E) (r : Nat) : (va_rf (tb_ro E r)).category = 1 := by cases r <;> rfl
theorem tb_dup {r : Nat} (hd : decode k.2.1 pc = .ok (.dup, 1)) (hp : pc + 1 = pc') (kk : tb_Wp E k d rc rs pc' L (.inr (.inl r) :: .inr (.inl r) :: S) M Q) : tb_Wp E k d rc rs pc L (.inr (.inl r) :: S) M Q := by
  subst hp
  intro p e R s m args below meth c H locs cells slots mc ms ls C hl hH hS h1 h2 hR
  exact lv_dup (va := va_rf (tb_ro E r)) C.1 C.2.1 hd (tb_rcat E r) (kk p e R s m args below meth c H locs cells slots mc ms ls C hl hH hS h1 h2 hR)
theorem tb_popi {x : Int32} (hd : decode k.2.1 pc = .ok (.pop, 1)) (hp : pc + 1 = pc') (kk : tb_Wp E k d rc rs pc' L (S) M Q) : tb_Wp E k d rc rs pc L (.inl x :: S) M Q := by
  subst hp
  intro p e R s m args below meth c H locs cells slots mc ms ls C hl hH hS h1 h2 hR
  exact lv_pop (va := .int x) C.1 C.2.1 hd rfl (kk p e R s m args below meth c H locs cells slots mc ms ls C hl hH hS h1 h2 hR)
theorem tb_popr {r : Nat} (hd : decode k.2.1 pc = .ok (.pop, 1)) (hp : pc + 1 = pc') (kk : tb_Wp E k d rc rs pc' L (S) M Q) : tb_Wp E k d rc rs pc L (.inr (.inl r) :: S) M Q := by
  subst hp
  intro p e R s m args below meth c H locs cells slots mc ms ls C hl hH hS h1 h2 hR
  exact lv_pop (va := va_rf (tb_ro E r)) C.1 C.2.1 hd (tb_rcat E r) (kk p e R s m args below meth c H locs cells slots mc ms ls C hl hH hS h1 h2 hR)
theorem tb_dup_x1 {x : Int32} {r : Nat} (hd : decode k.2.1 pc = .ok (.dup_x1, 1)) (hp : pc + 1 = pc') (kk : tb_Wp E k d rc rs pc' L (.inl x :: .inr (.inl r) :: .inl x :: S) M Q) : tb_Wp E k d rc rs pc L (.inl x :: .inr (.inl r) :: S) M Q := by
  subst hp
  intro p e R s m args below meth c H locs cells slots mc ms ls C hl hH hS h1 h2 hR
  exact lv_dup_x1 (va := .int x) (vb := va_rf (tb_ro E r)) C.1 C.2.1 hd rfl (tb_rcat E r) (kk p e R s m args below meth c H locs cells slots mc ms ls C hl hH hS h1 h2 hR)
theorem tb_dup2 {x : Int32} {r : Nat} (hd : decode k.2.1 pc = .ok (.dup2, 1)) (hp : pc + 1 = pc') (kk : tb_Wp E k d rc rs pc' L (.inl x :: .inr (.inl r) :: .inl x :: .inr (.inl r) :: S) M Q) : tb_Wp E k d rc rs pc L (.inl x :: .inr (.inl r) :: S) M Q := by
  subst hp
  intro p e R s m args below meth c H locs cells slots mc ms ls C hl hH hS h1 h2 hR
  exact lv_dup2_11 (va := .int x) (vb := va_rf (tb_ro E r)) C.1 C.2.1 hd rfl (tb_rcat E r) (kk p e R s m args below meth c H locs cells slots mc ms ls C hl hH hS h1 h2 hR)
theorem tb_dup_x2 {x y : Int32} {r : Nat} (hd : decode k.2.1 pc = .ok (.dup_x2, 1)) (hp : pc + 1 = pc') (kk : tb_Wp E k d rc rs pc' L (.inl x :: .inl y :: .inr (.inl r) :: .inl x :: S) M Q) : tb_Wp E k d rc rs pc L (.inl x :: .inl y :: .inr (.inl r) :: S) M Q := by
  subst hp
  intro p e R s m args below meth c H locs cells slots mc ms ls C hl hH hS h1 h2 hR
  exact lv_dup_x2 (va := .int x) (vb := .int y) (vd := va_rf (tb_ro E r)) C.1 C.2.1 hd rfl rfl (tb_rcat E r) (kk p e R s m args below meth c H locs cells slots mc ms ls C hl hH hS h1 h2 hR)
theorem tb_if_eq {x : Int32} {off : Int} (tg : Nat) (hd : decode k.2.1 pc = .ok (.ifCond .eq off, 3)) (ht : (pc : Int) + off = (tg : Int)) (hp : pc + 3 = pc') (kt : x = 0 → tb_Wp E k d rc rs tg L S M Q) (kf : ¬ x = 0 → tb_Wp E k d rc rs pc' L S M Q) : tb_Wp E k d rc rs pc L (.inl x :: S) M Q := by
  subst hp
  intro p e R s m args below meth c H locs cells slots mc ms ls C hl hH hS h1 h2 hR
  exact lv_if_eq C.1 C.2.1 hd ht (fun hc => kt hc p e R s m args below meth c H locs cells slots mc ms ls C hl hH hS h1 h2 hR) (fun hc => kf hc p e R s m args below meth c H locs cells slots mc ms ls C hl hH hS h1 h2 hR)
theorem tb_icmp_eq {x y : Int32} {off : Int} (tg : Nat) (hd : decode k.2.1 pc = .ok (.if_icmp .eq off, 3)) (ht : (pc : Int) + off = (tg : Int)) (hp : pc + 3 = pc') (kt : x = y → tb_Wp E k d rc rs tg L S M Q) (kf : ¬ x = y → tb_Wp E k d rc rs pc' L S M Q) : tb_Wp E k d rc rs pc L (.inl y :: .inl x :: S) M Q := by
  subst hp
  intro p e R s m args below meth c H locs cells slots mc ms ls C hl hH hS h1 h2 hR
  exact lv_icmp_eq C.1 C.2.1 hd ht (fun hc => kt hc p e R s m args below meth c H locs cells slots mc ms ls C hl hH hS h1 h2 hR) (fun hc => kf hc p e R s m args below meth c H locs cells slots mc ms ls C hl hH hS h1 h2 hR)
theorem tb_if_ne {x : Int32} {off : Int} (tg : Nat) (hd : decode k.2.1 pc = .ok (.ifCond .ne off, 3)) (ht : (pc : Int) + off = (tg : Int)) (hp : pc + 3 = pc') (kt : ¬ x = 0 → tb_Wp E k d rc rs tg L S M Q) (kf : x = 0 → tb_Wp E k d rc rs pc' L S M Q) : tb_Wp E k d rc rs pc L (.inl x :: S) M Q := by
  subst hp
  intro p e R s m args below meth c H locs cells slots mc ms ls C hl hH hS h1 h2 hR
  exact lv_if_ne C.1 C.2.1 hd ht (fun hc => kt hc p e R s m args below meth c H locs cells slots mc ms ls C hl hH hS h1 h2 hR) (fun hc => kf hc p e R s m args below meth c H locs cells slots mc ms ls C hl hH hS h1 h2 hR)
theorem tb_icmp_ne {x y : Int32} {off : Int} (tg : Nat) (hd : decode k.2.1 pc = .ok (.if_icmp .ne off, 3)) (ht : (pc : Int) + off = (tg : Int)) (hp : pc + 3 = pc') (kt : ¬ x = y → tb_Wp E k d rc rs tg L S M Q) (kf : x = y → tb_Wp E k d rc rs pc' L S M Q) : tb_Wp E k d rc rs pc L (.inl y :: .inl x :: S) M Q := by
  subst hp
  intro p e R s m args below meth c H locs cells slots mc ms ls C hl hH hS h1 h2 hR
  exact lv_icmp_ne C.1 C.2.1 hd ht (fun hc => kt hc p e R s m args below meth c H locs cells slots mc ms ls C hl hH hS h1 h2 hR) (fun hc => kf hc p e R s m args below meth c H locs cells slots mc ms ls C hl hH hS h1 h2 hR)
theorem tb_if_lt {x : Int32} {off : Int} (tg : Nat) (hd : decode k.2.1 pc = .ok (.ifCond .lt off, 3)) (ht : (pc : Int) + off = (tg : Int)) (hp : pc + 3 = pc') (kt : x < 0 → tb_Wp E k d rc rs tg L S M Q) (kf : ¬ x < 0 → tb_Wp E k d rc rs pc' L S M Q) : tb_Wp E k d rc rs pc L (.inl x :: S) M Q := by
  subst hp
  intro p e R s m args below meth c H locs cells slots mc ms ls C hl hH hS h1 h2 hR
  exact lv_if_lt C.1 C.2.1 hd ht (fun hc => kt hc p e R s m args below meth c H locs cells slots mc ms ls C hl hH hS h1 h2 hR) (fun hc => kf hc p e R s m args below meth c H locs cells slots mc ms ls C hl hH hS h1 h2 hR)
theorem tb_icmp_lt {x y : Int32} {off : Int} (tg : Nat) (hd : decode k.2.1 pc = .ok (.if_icmp .lt off, 3)) (ht : (pc : Int) + off = (tg : Int)) (hp : pc + 3 = pc') (kt : x < y → tb_Wp E k d rc rs tg L S M Q) (kf : ¬ x < y → tb_Wp E k d rc rs pc' L S M Q) : tb_Wp E k d rc rs pc L (.inl y :: .inl x :: S) M Q := by
  subst hp
  intro p e R s m args below meth c H locs cells slots mc ms ls C hl hH hS h1 h2 hR
  exact lv_icmp_lt C.1 C.2.1 hd ht (fun hc => kt hc p e R s m args below meth c H locs cells slots mc ms ls C hl hH hS h1 h2 hR) (fun hc => kf hc p e R s m args below meth c H locs cells slots mc ms ls C hl hH hS h1 h2 hR)
theorem tb_if_ge {x : Int32} {off : Int} (tg : Nat) (hd : decode k.2.1 pc = .ok (.ifCond .ge off, 3)) (ht : (pc : Int) + off = (tg : Int)) (hp : pc + 3 = pc') (kt : 0 ≤ x → tb_Wp E k d rc rs tg L S M Q) (kf : ¬ 0 ≤ x → tb_Wp E k d rc rs pc' L S M Q) : tb_Wp E k d rc rs pc L (.inl x :: S) M Q := by
  subst hp
  intro p e R s m args below meth c H locs cells slots mc ms ls C hl hH hS h1 h2 hR
  exact lv_if_ge C.1 C.2.1 hd ht (fun hc => kt hc p e R s m args below meth c H locs cells slots mc ms ls C hl hH hS h1 h2 hR) (fun hc => kf hc p e R s m args below meth c H locs cells slots mc ms ls C hl hH hS h1 h2 hR)
theorem tb_icmp_ge {x y : Int32} {off : Int} (tg : Nat) (hd : decode k.2.1 pc = .ok (.if_icmp .ge off, 3)) (ht : (pc : Int) + off = (tg : Int)) (hp : pc + 3 = pc') (kt : y ≤ x → tb_Wp E k d rc rs tg L S M Q) (kf : ¬ y ≤ x → tb_Wp E k d rc rs pc' L S M Q) : tb_Wp E k d rc rs pc L (.inl y :: .inl x :: S) M Q := by
  subst hp
  intro p e R s m args below meth c H locs cells slots mc ms ls C hl hH hS h1 h2 hR
  exact lv_icmp_ge C.1 C.2.1 hd ht (fun hc => kt hc p e R s m args below meth c H locs cells slots mc ms ls C hl hH hS h1 h2 hR) (fun hc => kf hc p e R s m args below meth c H locs cells slots mc ms ls C hl hH hS h1 h2 hR)
theorem tb_if_gt {x : Int32} {off : Int} (tg : Nat) (hd : decode k.2.1 pc = .ok (.ifCond .gt off, 3)) (ht : (pc : Int) + off = (tg : Int)) (hp : pc + 3 = pc') (kt : 0 < x → tb_Wp E k d rc rs tg L S M Q) (kf : ¬ 0 < x → tb_Wp E k d rc rs pc' L S M Q) : tb_Wp E k d rc rs pc L (.inl x :: S) M Q := by
  subst hp
  intro p e R s m args below meth c H locs cells slots mc ms ls C hl hH hS h1 h2 hR
  exact lv_if_gt C.1 C.2.1 hd ht (fun hc => kt hc p e R s m args below meth c H locs cells slots mc ms ls C hl hH hS h1 h2 hR) (fun hc => kf hc p e R s m args below meth c H locs cells slots mc ms ls C hl hH hS h1 h2 hR)
theorem tb_icmp_gt {x y : Int32} {off : Int} (tg : Nat) (hd : decode k.2.1 pc = .ok (.if_icmp .gt off, 3)) (ht : (pc : Int) + off = (tg : Int)) (hp : pc + 3 = pc') (kt : y < x → tb_Wp E k d rc rs tg L S M Q) (kf : ¬ y < x → tb_Wp E k d rc rs pc' L S M Q) : tb_Wp E k d rc rs pc L (.inl y :: .inl x :: S) M Q := by
  subst hp
  intro p e R s m args below meth c H locs cells slots mc ms ls C hl hH hS h1 h2 hR
  exact lv_icmp_gt C.1 C.2.1 hd ht (fun hc => kt hc p e R s m args below meth c H locs cells slots mc ms ls C hl hH hS h1 h2 hR) (fun hc => kf hc p e R s m args below meth c H locs cells slots mc ms ls C hl hH hS h1 h2 hR)
theorem tb_if_le {x : Int32} {off : Int} (tg : Nat) (hd : decode k.2.1 pc = .ok (.ifCond .le off, 3)) (ht : (pc : Int) + off = (tg : Int)) (hp : pc + 3 = pc') (kt : x ≤ 0 → tb_Wp E k d rc rs tg L S M Q) (kf : ¬ x ≤ 0 → tb_Wp E k d rc rs pc' L S M Q) : tb_Wp E k d rc rs pc L (.inl x :: S) M Q := by
  subst hp
  intro p e R s m args below meth c H locs cells slots mc ms ls C hl hH hS h1 h2 hR
  exact lv_if_le C.1 C.2.1 hd ht (fun hc => kt hc p e R s m args below meth c H locs cells slots mc ms ls C hl hH hS h1 h2 hR) (fun hc => kf hc p e R s m args below meth c H locs cells slots mc ms ls C hl hH hS h1 h2 hR)
theorem tb_icmp_le {x y : Int32} {off : Int} (tg : Nat) (hd : decode k.2.1 pc = .ok (.if_icmp .le off, 3)) (ht : (pc : Int) + off = (tg : Int)) (hp : pc + 3 = pc') (kt : x ≤ y → tb_Wp E k d rc rs tg L S M Q) (kf : ¬ x ≤ y → tb_Wp E k d rc rs pc' L S M Q) : tb_Wp E k d rc rs pc L (.inl y :: .inl x :: S) M Q := by
  subst hp
  intro p e R s m args below meth c H locs cells slots mc ms ls C hl hH hS h1 h2 hR
  exact lv_icmp_le C.1 C.2.1 hd ht (fun hc => kt hc p e R s m args below meth c H locs cells slots mc ms ls C hl hH hS h1 h2 hR) (fun hc => kf hc p e R s m args below meth c H locs cells slots mc ms ls C hl hH hS h1 h2 hR)
theorem tb_goto {off : Int} (tg : Nat) (hd : decode k.2.1 pc = .ok (.goto off, 3)) (ht : (pc : Int) + off = (tg : Int)) (kk : tb_Wp E k d rc rs tg L S M Q) : tb_Wp E k d rc rs pc L S M Q := by
  intro p e R s m args below meth c H locs cells slots mc ms ls C hl hH hS h1 h2 hR
  exact lv_goto C.1 C.2.1 hd ht (kk p e R s m args below meth c H locs cells slots mc ms ls C hl hH hS h1 h2 hR)
theorem tb_ifnull {r : Nat} {off : Int} (tg : Nat) (hd : decode k.2.1 pc = .ok (.ifnull off, 3)) (ht : (pc : Int) + off = (tg : Int)) (hp : pc + 3 = pc') (kt : r = 0 → tb_Wp E k d rc rs tg L S M Q) (kf : ¬ r = 0 → tb_Wp E k d rc rs pc' L S M Q) : tb_Wp E k d rc rs pc L (.inr (.inl r) :: S) M Q := by
  subst hp
  intro p e R s m args below meth c H locs cells slots mc ms ls C hl hH hS h1 h2 hR
  cases r with
  | zero => exact lv_ifnullN C.1 C.2.1 hd ht (kt rfl p e R s m args below meth c H locs cells slots mc ms ls C hl hH hS h1 h2 hR)
  | succ r => exact lv_ifnull C.1 C.2.1 hd (kf (by omega) p e R s m args below meth c H locs cells slots mc ms ls C hl hH hS h1 h2 hR)
theorem tb_ifnonnull {r : Nat} {off : Int} (tg : Nat) (hd : decode k.2.1 pc = .ok (.ifnonnull off, 3)) (ht : (pc : Int) + off = (tg : Int)) (hp : pc + 3 = pc') (kt : ¬ r = 0 → tb_Wp E k d rc rs tg L S M Q) (kf : r = 0 → tb_Wp E k d rc rs pc' L S M Q) : tb_Wp E k d rc rs pc L (.inr (.inl r) :: S) M Q := by
  subst hp
  intro p e R s m args below meth c H locs cells slots mc ms ls C hl hH hS h1 h2 hR
  cases r with
  | zero => exact lv_ifnonnullN C.1 C.2.1 hd (kf rfl p e R s m args below meth c H locs cells slots mc ms ls C hl hH hS h1 h2 hR)
  | succ r => exact lv_ifnonnull C.1 C.2.1 hd ht (kt (by omega) p e R s m args below meth c H locs cells slots mc ms ls C hl hH hS h1 h2 hR)
theorem tb_iloadn {j : Fin 4} {x : Int32} (hd : decode k.2.1 pc = .ok (.iload_n j, 1)) (hp : pc + 1 = pc') (hx : L[(j : Nat)]? = some (some (.inl x))) (kk : tb_Wp E k d rc rs pc' L (.inl x :: S) M Q) : tb_Wp E k d rc rs pc L S M Q := by
  subst hp
  intro p e R s m args below meth c H locs cells slots mc ms ls C hl hH hS h1 h2 hR
  exact lv_iload_n C.1 C.2.1 hd rfl (tb_at hl hx) (kk p e R s m args below meth c H locs cells slots mc ms ls C hl hH hS h1 h2 hR)
theorem tb_iload0 {i : Nat} {x : Int32} (hd : decode k.2.1 pc = .ok (.iload i, 2)) (hp : pc + 2 = pc') (hx : L[i]? = some (some (.inl x))) (kk : tb_Wp E k d rc rs pc' L (.inl x :: S) M Q) : tb_Wp E k d rc rs pc L S M Q := by
  subst hp
  intro p e R s m args below meth c H locs cells slots mc ms ls C hl hH hS h1 h2 hR
  exact lv_iload C.1 C.2.1 hd (tb_at hl hx) (kk p e R s m args below meth c H locs cells slots mc ms ls C hl hH hS h1 h2 hR)
theorem tb_aloadn {j : Fin 4} {r : Nat} (hd : decode k.2.1 pc = .ok (.aload_n j, 1)) (hp : pc + 1 = pc') (hx : L[(j : Nat)]? = some (some (.inr r))) (kk : tb_Wp E k d rc rs pc' L (.inr (.inl r) :: S) M Q) : tb_Wp E k d rc rs pc L S M Q := by
  subst hp
  intro p e R s m args below meth c H locs cells slots mc ms ls C hl hH hS h1 h2 hR
  cases r with
  | zero => exact lv_aload_nN C.1 C.2.1 hd rfl (tb_at hl hx) (kk p e R s m args below meth c H locs cells slots mc ms ls C hl hH hS h1 h2 hR)
  | succ r => exact lv_aload_n C.1 C.2.1 hd rfl (tb_at hl hx) (kk p e R s m args below meth c H locs cells slots mc ms ls C hl hH hS h1 h2 hR)
theorem tb_aload0 {i : Nat} {r : Nat} (hd : decode k.2.1 pc = .ok (.aload i, 2)) (hp : pc + 2 = pc') (hx : L[i]? = some (some (.inr r))) (kk : tb_Wp E k d rc rs pc' L (.inr (.inl r) :: S) M Q) : tb_Wp E k d rc rs pc L S M Q := by
  subst hp
  intro p e R s m args below meth c H locs cells slots mc ms ls C hl hH hS h1 h2 hR
  cases r with
  | zero => exact lv_aloadN C.1 C.2.1 hd (tb_at hl hx) (kk p e R s m args below meth c H locs cells slots mc ms ls C hl hH hS h1 h2 hR)
  | succ r => exact lv_aload C.1 C.2.1 hd (tb_at hl hx) (kk p e R s m args below meth c H locs cells slots mc ms ls C hl hH hS h1 h2 hR)
theorem tb_istoren {j : Fin 4} {x : Int32} {L' : List tb_L} (hd : decode k.2.1 pc = .ok (.istore_n j, 1)) (hp : pc + 1 = pc') (hi : (j : Nat) < k.2.2.1) (hx : L.set (j : Nat) (some (.inl x)) = L') (kk : tb_Wp E k d rc rs pc' L' S M Q) : tb_Wp E k d rc rs pc L (.inl x :: S) M Q := by
  subst hp; subst hx
  intro p e R s m args below meth c H locs cells slots mc ms ls C hl hH hS h1 h2 hR
  exact lv_istore_n C.1 C.2.1 hd rfl hl hi rfl (fun ls' hl' => kk p e R s m args below meth c H locs cells slots mc ms ls' C (tb_stored hl') hH hS h1 h2 hR)
theorem tb_istore0 {i : Nat} {x : Int32} {L' : List tb_L} (hd : decode k.2.1 pc = .ok (.istore i, 2)) (hp : pc + 2 = pc') (hi : i < k.2.2.1) (hx : L.set i (some (.inl x)) = L') (kk : tb_Wp E k d rc rs pc' L' S M Q) : tb_Wp E k d rc rs pc L (.inl x :: S) M Q := by
  subst hp; subst hx
  intro p e R s m args below meth c H locs cells slots mc ms ls C hl hH hS h1 h2 hR
  exact lv_istore C.1 C.2.1 hd hl hi rfl (fun ls' hl' => kk p e R s m args below meth c H locs cells slots mc ms ls' C (tb_stored hl') hH hS h1 h2 hR)
theorem tb_astoren {j : Fin 4} {r : Nat} {L' : List tb_L} (hd : decode k.2.1 pc = .ok (.astore_n j, 1)) (hp : pc + 1 = pc') (hi : (j : Nat) < k.2.2.1) (hx : L.set (j : Nat) (some (.inr r)) = L') (kk : tb_Wp E k d rc rs pc' L' S M Q) : tb_Wp E k d rc rs pc L (.inr (.inl r) :: S) M Q := by
  subst hp; subst hx
  intro p e R s m args below meth c H locs cells slots mc ms ls C hl hH hS h1 h2 hR
  cases r with
  | zero => exact lv_astore_nN C.1 C.2.1 hd rfl hl hi rfl (fun ls' hl' => kk p e R s m args below meth c H locs cells slots mc ms ls' C (tb_stored hl') hH hS h1 h2 hR)
  | succ r => exact lv_astore_n C.1 C.2.1 hd rfl hl hi rfl (fun ls' hl' => kk p e R s m args below meth c H locs cells slots mc ms ls' C (tb_stored hl') hH hS h1 h2 hR)
theorem tb_astore0 {i : Nat} {r : Nat} {L' : List tb_L} (hd : decode k.2.1 pc = .ok (.astore i, 2)) (hp : pc + 2 = pc') (hi : i < k.2.2.1) (hx : L.set i (some (.inr r)) = L') (kk : tb_Wp E k d rc rs pc' L' S M Q) : tb_Wp E k d rc rs pc L (.inr (.inl r) :: S) M Q := by
  subst hp; subst hx
  intro p e R s m args below meth c H locs cells slots mc ms ls C hl hH hS h1 h2 hR
  cases r with
  | zero => exact lv_astoreN C.1 C.2.1 hd hl hi rfl (fun ls' hl' => kk p e R s m args below meth c H locs cells slots mc ms ls' C (tb_stored hl') hH hS h1 h2 hR)
  | succ r => exact lv_astore C.1 C.2.1 hd hl hi rfl (fun ls' hl' => kk p e R s m args below meth c H locs cells slots mc ms ls' C (tb_stored hl') hH hS h1 h2 hR)
theorem tb_iinc0 {i : Nat} {n : Int} {x : Int32} {L' : List tb_L} (v : Int32) (hd : decode k.2.1 pc = .ok (.iinc i n, 3)) (hp : pc + 3 = pc') (hi : i < k.2.2.1) (hg : L[i]? = some (some (.inl x))) (hv : Int32.ofInt n = v) (hx : L.set i (some (.inl (x + v))) = L') (kk : tb_Wp E k d rc rs pc' L' S M Q) : tb_Wp E k d rc rs pc L S M Q := by
  subst hp; subst hx; subst hv
  intro p e R s m args below meth c H locs cells slots mc ms ls C hl hH hS h1 h2 hR
  obtain ⟨z, hz⟩ := List.getElem?_of_mem ((tb_lv_mem E L 0 i _).mpr ⟨i, .inl x, hg, by omega, rfl⟩)
  exact lv_iinc C.1 C.2.1 hd hl hz rfl hi rfl (fun ls' hl' => kk p e R s m args below meth c H locs cells slots mc ms ls' C (tb_stored hl') hH hS h1 h2 hR)
theorem tb_iload_0 {x : Int32} {L : List tb_L} (hd : decode k.2.1 pc = .ok (.iload_n 0, 1)) (hp : pc + 1 = pc') (kk : tb_Wp E k d rc rs pc' (some (.inl x) :: L) (.inl x :: S) M Q) : tb_Wp E k d rc rs pc (some (.inl x) :: L) S M Q := tb_iloadn hd hp rfl kk
theorem tb_istore_0 {b : tb_L} {x : Int32} {L : List tb_L} (hd : decode k.2.1 pc = .ok (.istore_n 0, 1)) (hp : pc + 1 = pc') (hi : 0 < k.2.2.1) (kk : tb_Wp E k d rc rs pc' (some (.inl x) :: L) S M Q) : tb_Wp E k d rc rs pc (b :: L) (.inl x :: S) M Q := tb_istoren hd hp hi rfl kk
theorem tb_aload_0 {x : Nat} {L : List tb_L} (hd : decode k.2.1 pc = .ok (.aload_n 0, 1)) (hp : pc + 1 = pc') (kk : tb_Wp E k d rc rs pc' (some (.inr x) :: L) (.inr (.inl x) :: S) M Q) : tb_Wp E k d rc rs pc (some (.inr x) :: L) S M Q := tb_aloadn hd hp rfl kk
theorem tb_astore_0 {b : tb_L} {x : Nat} {L : List tb_L} (hd : decode k.2.1 pc = .ok (.astore_n 0, 1)) (hp : pc + 1 = pc') (hi : 0 < k.2.2.1) (kk : tb_Wp E k d rc rs pc' (some (.inr x) :: L) S M Q) : tb_Wp E k d rc rs pc (b :: L) (.inr (.inl x) :: S) M Q := tb_astoren hd hp hi rfl kk
theorem tb_iinc_0 {n : Int} {x : Int32} {L : List tb_L} (v : Int32) (hd : decode k.2.1 pc = .ok (.iinc 0 n, 3)) (hp : pc + 3 = pc') (hi : 0 < k.2.2.1) (hv : Int32.ofInt n = v) (kk : tb_Wp E k d rc rs pc' (some (.inl (x + v)) :: L) S M Q) : tb_Wp E k d rc rs pc (some (.inl x) :: L) S M Q := tb_iinc0 v hd hp hi rfl hv rfl kk
theorem tb_iload_1 {a0 : tb_L} {x : Int32} {L : List tb_L} (hd : decode k.2.1 pc = .ok (.iload_n 1, 1)) (hp : pc + 1 = pc') (kk : tb_Wp E k d rc rs pc' (a0 :: some (.inl x) :: L) (.inl x :: S) M Q) : tb_Wp E k d rc rs pc (a0 :: some (.inl x) :: L) S M Q := tb_iloadn hd hp rfl kk
theorem tb_istore_1 {a0 : tb_L} {b : tb_L} {x : Int32} {L : List tb_L} (hd : decode k.2.1 pc = .ok (.istore_n 1, 1)) (hp : pc + 1 = pc') (hi : 1 < k.2.2.1) (kk : tb_Wp E k d rc rs pc' (a0 :: some (.inl x) :: L) S M Q) : tb_Wp E k d rc rs pc (a0 :: b :: L) (.inl x :: S) M Q := tb_istoren hd hp hi rfl kk
theorem tb_aload_1 {a0 : tb_L} {x : Nat} {L : List tb_L} (hd : decode k.2.1 pc = .ok (.aload_n 1, 1)) (hp : pc + 1 = pc') (kk : tb_Wp E k d rc rs pc' (a0 :: some (.inr x) :: L) (.inr (.inl x) :: S) M Q) : tb_Wp E k d rc rs pc (a0 :: some (.inr x) :: L) S M Q := tb_aloadn hd hp rfl kk
theorem tb_astore_1 {a0 : tb_L} {b : tb_L} {x : Nat} {L : List tb_L} (hd : decode k.2.1 pc = .ok (.astore_n 1, 1)) (hp : pc + 1 = pc') (hi : 1 < k.2.2.1) (kk : tb_Wp E k d rc rs pc' (a0 :: some (.inr x) :: L) S M Q) : tb_Wp E k d rc rs pc (a0 :: b :: L) (.inr (.inl x) :: S) M Q := tb_astoren hd hp hi rfl kk
theorem tb_iinc_1 {a0 : tb_L} {n : Int} {x : Int32} {L : List tb_L} (v : Int32) (hd : decode k.2.1 pc = .ok (.iinc 1 n, 3)) (hp : pc + 3 = pc') (hi : 1 < k.2.2.1) (hv : Int32.ofInt n = v) (kk : tb_Wp E k d rc rs pc' (a0 :: some (.inl (x + v)) :: L) S M Q) : tb_Wp E k d rc rs pc (a0 :: some (.inl x) :: L) S M Q := tb_iinc0 v hd hp hi rfl hv rfl kk
theorem tb_iload_2 {a0 a1 : tb_L} {x : Int32} {L : List tb_L} (hd : decode k.2.1 pc = .ok (.iload_n 2, 1)) (hp : pc + 1 = pc') (kk : tb_Wp E k d rc rs pc' (a0 :: a1 :: some (.inl x) :: L) (.inl x :: S) M Q) : tb_Wp E k d rc rs pc (a0 :: a1 :: some (.inl x) :: L) S M Q := tb_iloadn hd hp rfl kk
theorem tb_istore_2 {a0 a1 : tb_L} {b : tb_L} {x : Int32} {L : List tb_L} (hd : decode k.2.1 pc = .ok (.istore_n 2, 1)) (hp : pc + 1 = pc') (hi : 2 < k.2.2.1) (kk : tb_Wp E k d rc rs pc' (a0 :: a1 :: some (.inl x) :: L) S M Q) : tb_Wp E k d rc rs pc (a0 :: a1 :: b :: L) (.inl x :: S) M Q := tb_istoren hd hp hi rfl kk
theorem tb_aload_2 {a0 a1 : tb_L} {x : Nat} {L : List tb_L} (hd : decode k.2.1 pc = .ok (.aload_n 2, 1)) (hp : pc + 1 = pc') (kk : tb_Wp E k d rc rs pc' (a0 :: a1 :: some (.inr x) :: L) (.inr (.inl x) :: S) M Q) : tb_Wp E k d rc rs pc (a0 :: a1 :: some (.inr x) :: L) S M Q := tb_aloadn hd hp rfl kk
theorem tb_astore_2 {a0 a1 : tb_L} {b : tb_L} {x : Nat} {L : List tb_L} (hd : decode k.2.1 pc = .ok (.astore_n 2, 1)) (hp : pc + 1 = pc') (hi : 2 < k.2.2.1) (kk : tb_Wp E k d rc rs pc' (a0 :: a1 :: some (.inr x) :: L) S M Q) : tb_Wp E k d rc rs pc (a0 :: a1 :: b :: L) (.inr (.inl x) :: S) M Q := tb_astoren hd hp hi rfl kk
theorem tb_iinc_2 {a0 a1 : tb_L} {n : Int} {x : Int32} {L : List tb_L} (v : Int32) (hd : decode k.2.1 pc = .ok (.iinc 2 n, 3)) (hp : pc + 3 = pc') (hi : 2 < k.2.2.1) (hv : Int32.ofInt n = v) (kk : tb_Wp E k d rc rs pc' (a0 :: a1 :: some (.inl (x + v)) :: L) S M Q) : tb_Wp E k d rc rs pc (a0 :: a1 :: some (.inl x) :: L) S M Q := tb_iinc0 v hd hp hi rfl hv rfl kk
theorem tb_iload_3 {a0 a1 a2 : tb_L} {x : Int32} {L : List tb_L} (hd : decode k.2.1 pc = .ok (.iload_n 3, 1)) (hp : pc + 1 = pc') (kk : tb_Wp E k d rc rs pc' (a0 :: a1 :: a2 :: some (.inl x) :: L) (.inl x :: S) M Q) : tb_Wp E k d rc rs pc (a0 :: a1 :: a2 :: some (.inl x) :: L) S M Q := tb_iloadn hd hp rfl kk
theorem tb_istore_3 {a0 a1 a2 : tb_L} {b : tb_L} {x : Int32} {L : List tb_L} (hd : decode k.2.1 pc = .ok (.istore_n 3, 1)) (hp : pc + 1 = pc') (hi : 3 < k.2.2.1) (kk : tb_Wp E k d rc rs pc' (a0 :: a1 :: a2 :: some (.inl x) :: L) S M Q) : tb_Wp E k d rc rs pc (a0 :: a1 :: a2 :: b :: L) (.inl x :: S) M Q := tb_istoren hd hp hi rfl kk
theorem tb_aload_3 {a0 a1 a2 : tb_L} {x : Nat} {L : List tb_L} (hd : decode k.2.1 pc = .ok (.aload_n 3, 1)) (hp : pc + 1 = pc') (kk : tb_Wp E k d rc rs pc' (a0 :: a1 :: a2 :: some (.inr x) :: L) (.inr (.inl x) :: S) M Q) : tb_Wp E k d rc rs pc (a0 :: a1 :: a2 :: some (.inr x) :: L) S M Q := tb_aloadn hd hp rfl kk
theorem tb_astore_3 {a0 a1 a2 : tb_L} {b : tb_L} {x : Nat} {L : List tb_L} (hd : decode k.2.1 pc = .ok (.astore_n 3, 1)) (hp : pc + 1 = pc') (hi : 3 < k.2.2.1) (kk : tb_Wp E k d rc rs pc' (a0 :: a1 :: a2 :: some (.inr x) :: L) S M Q) : tb_Wp E k d rc rs pc (a0 :: a1 :: a2 :: b :: L) (.inr (.inl x) :: S) M Q := tb_astoren hd hp hi rfl kk
theorem tb_iinc_3 {a0 a1 a2 : tb_L} {n : Int} {x : Int32} {L : List tb_L} (v : Int32) (hd : decode k.2.1 pc = .ok (.iinc 3 n, 3)) (hp : pc + 3 = pc') (hi : 3 < k.2.2.1) (hv : Int32.ofInt n = v) (kk : tb_Wp E k d rc rs pc' (a0 :: a1 :: a2 :: some (.inl (x + v)) :: L) S M Q) : tb_Wp E k d rc rs pc (a0 :: a1 :: a2 :: some (.inl x) :: L) S M Q := tb_iinc0 v hd hp hi rfl hv rfl kk
theorem tb_iload_4 {a0 a1 a2 a3 : tb_L} {x : Int32} {L : List tb_L} (hd : decode k.2.1 pc = .ok (.iload 4, 2)) (hp : pc + 2 = pc') (kk : tb_Wp E k d rc rs pc' (a0 :: a1 :: a2 :: a3 :: some (.inl x) :: L) (.inl x :: S) M Q) : tb_Wp E k d rc rs pc (a0 :: a1 :: a2 :: a3 :: some (.inl x) :: L) S M Q := tb_iload0 hd hp rfl kk
theorem tb_istore_4 {a0 a1 a2 a3 : tb_L} {b : tb_L} {x : Int32} {L : List tb_L} (hd : decode k.2.1 pc = .ok (.istore 4, 2)) (hp : pc + 2 = pc') (hi : 4 < k.2.2.1) (kk : tb_Wp E k d rc rs pc' (a0 :: a1 :: a2 :: a3 :: some (.inl x) :: L) S M Q) : tb_Wp E k d rc rs pc (a0 :: a1 :: a2 :: a3 :: b :: L) (.inl x :: S) M Q := tb_istore0 hd hp hi rfl kk
theorem tb_aload_4 {a0 a1 a2 a3 : tb_L} {x : Nat} {L : List tb_L} (hd : decode k.2.1 pc = .ok (.aload 4, 2)) (hp : pc + 2 = pc') (kk : tb_Wp E k d rc rs pc' (a0 :: a1 :: a2 :: a3 :: some (.inr x) :: L) (.inr (.inl x) :: S) M Q) : tb_Wp E k d rc rs pc (a0 :: a1 :: a2 :: a3 :: some (.inr x) :: L) S M Q := tb_aload0 hd hp rfl kk
theorem tb_astore_4 {a0 a1 a2 a3 : tb_L} {b : tb_L} {x : Nat} {L : List tb_L} (hd : decode k.2.1 pc = .ok (.astore 4, 2)) (hp : pc + 2 = pc') (hi : 4 < k.2.2.1) (kk : tb_Wp E k d rc rs pc' (a0 :: a1 :: a2 :: a3 :: some (.inr x) :: L) S M Q) : tb_Wp E k d rc rs pc (a0 :: a1 :: a2 :: a3 :: b :: L) (.inr (.inl x) :: S) M Q := tb_astore0 hd hp hi rfl kk
theorem tb_iinc_4 {a0 a1 a2 a3 : tb_L} {n : Int} {x : Int32} {L : List tb_L} (v : Int32) (hd : decode k.2.1 pc = .ok (.iinc 4 n, 3)) (hp : pc + 3 = pc') (hi : 4 < k.2.2.1) (hv : Int32.ofInt n = v) (kk : tb_Wp E k d rc rs pc' (a0 :: a1 :: a2 :: a3 :: some (.inl (x + v)) :: L) S M Q) : tb_Wp E k d rc rs pc (a0 :: a1 :: a2 :: a3 :: some (.inl x) :: L) S M Q := tb_iinc0 v hd hp hi rfl hv rfl kk
theorem tb_iload_5 {a0 a1 a2 a3 a4 : tb_L} {x : Int32} {L : List tb_L} (hd : decode k.2.1 pc = .ok (.iload 5, 2)) (hp : pc + 2 = pc') (kk : tb_Wp E k d rc rs pc' (a0 :: a1 :: a2 :: a3 :: a4 :: some (.inl x) :: L) (.inl x :: S) M Q) : tb_Wp E k d rc rs pc (a0 :: a1 :: a2 :: a3 :: a4 :: some (.inl x) :: L) S M Q := tb_iload0 hd hp rfl kk
theorem tb_istore_5 {a0 a1 a2 a3 a4 : tb_L} {b : tb_L} {x : Int32} {L : List tb_L} (hd : decode k.2.1 pc = .ok (.istore 5, 2)) (hp : pc + 2 = pc') (hi : 5 < k.2.2.1) (kk : tb_Wp E k d rc rs pc' (a0 :: a1 :: a2 :: a3 :: a4 :: some (.inl x) :: L) S M Q) : tb_Wp E k d rc rs pc (a0 :: a1 :: a2 :: a3 :: a4 :: b :: L) (.inl x :: S) M Q := tb_istore0 hd hp hi rfl kk
theorem tb_aload_5 {a0 a1 a2 a3 a4 : tb_L} {x : Nat} {L : List tb_L} (hd : decode k.2.1 pc = .ok (.aload 5, 2)) (hp : pc + 2 = pc') (kk : tb_Wp E k d rc rs pc' (a0 :: a1 :: a2 :: a3 :: a4 :: some (.inr x) :: L) (.inr (.inl x) :: S) M Q) : tb_Wp E k d rc rs pc (a0 :: a1 :: a2 :: a3 :: a4 :: some (.inr x) :: L) S M Q := tb_aload0 hd hp rfl kk
theorem tb_astore_5 {a0 a1 a2 a3 a4 : tb_L} {b : tb_L} {x : Nat} {L : List tb_L} (hd : decode k.2.1 pc = .ok (.astore 5, 2)) (hp : pc + 2 = pc') (hi : 5 < k.2.2.1) (kk : tb_Wp E k d rc rs pc' (a0 :: a1 :: a2 :: a3 :: a4 :: some (.inr x) :: L) S M Q) : tb_Wp E k d rc rs pc (a0 :: a1 :: a2 :: a3 :: a4 :: b :: L) (.inr (.inl x) :: S) M Q := tb_astore0 hd hp hi rfl kk
theorem tb_iinc_5 {a0 a1 a2 a3 a4 : tb_L} {n : Int} {x : Int32} {L : List tb_L} (v : Int32) (hd : decode k.2.1 pc = .ok (.iinc 5 n, 3)) (hp : pc + 3 = pc') (hi : 5 < k.2.2.1) (hv : Int32.ofInt n = v) (kk : tb_Wp E k d rc rs pc' (a0 :: a1 :: a2 :: a3 :: a4 :: some (.inl (x + v)) :: L) S M Q) : tb_Wp E k d rc rs pc (a0 :: a1 :: a2 :: a3 :: a4 :: some (.inl x) :: L) S M Q := tb_iinc0 v hd hp hi rfl hv rfl kk
theorem tb_iload_6 {a0 a1 a2 a3 a4 a5 : tb_L} {x : Int32} {L : List tb_L} (hd : decode k.2.1 pc = .ok (.iload 6, 2)) (hp : pc + 2 = pc') (kk : tb_Wp E k d rc rs pc' (a0 :: a1 :: a2 :: a3 :: a4 :: a5 :: some (.inl x) :: L) (.inl x :: S) M Q) : tb_Wp E k d rc rs pc (a0 :: a1 :: a2 :: a3 :: a4 :: a5 :: some (.inl x) :: L) S M Q := tb_iload0 hd hp rfl kk
theorem tb_istore_6 {a0 a1 a2 a3 a4 a5 : tb_L} {b : tb_L} {x : Int32} {L : List tb_L} (hd : decode k.2.1 pc = .ok (.istore 6, 2)) (hp : pc + 2 = pc') (hi : 6 < k.2.2.1) (kk : tb_Wp E k d rc rs pc' (a0 :: a1 :: a2 :: a3 :: a4 :: a5 :: some (.inl x) :: L) S M Q) : tb_Wp E k d rc rs pc (a0 :: a1 :: a2 :: a3 :: a4 :: a5 :: b :: L) (.inl x :: S) M Q := tb_istore0 hd hp hi rfl kk
theorem tb_aload_6 {a0 a1 a2 a3 a4 a5 : tb_L} {x : Nat} {L : List tb_L} (hd : decode k.2.1 pc = .ok (.aload 6, 2)) (hp : pc + 2 = pc') (kk : tb_Wp E k d rc rs pc' (a0 :: a1 :: a2 :: a3 :: a4 :: a5 :: some (.inr x) :: L) (.inr (.inl x) :: S) M Q) : tb_Wp E k d rc rs pc (a0 :: a1 :: a2 :: a3 :: a4 :: a5 :: some (.inr x) :: L) S M Q := tb_aload0 hd hp rfl kk
theorem tb_astore_6 {a0 a1 a2 a3 a4 a5 : tb_L} {b : tb_L} {x : Nat} {L : List tb_L} (hd : decode k.2.1 pc = .ok (.astore 6, 2)) (hp : pc + 2 = pc') (hi : 6 < k.2.2.1) (kk : tb_Wp E k d rc rs pc' (a0 :: a1 :: a2 :: a3 :: a4 :: a5 :: some (.inr x) :: L) S M Q) : tb_Wp E k d rc rs pc (a0 :: a1 :: a2 :: a3 :: a4 :: a5 :: b :: L) (.inr (.inl x) :: S) M Q := tb_astore0 hd hp hi rfl kk
theorem tb_iinc_6 {a0 a1 a2 a3 a4 a5 : tb_L} {n : Int} {x : Int32} {L : List tb_L} (v : Int32) (hd : decode k.2.1 pc = .ok (.iinc 6 n, 3)) (hp : pc + 3 = pc') (hi : 6 < k.2.2.1) (hv : Int32.ofInt n = v) (kk : tb_Wp E k d rc rs pc' (a0 :: a1 :: a2 :: a3 :: a4 :: a5 :: some (.inl (x + v)) :: L) S M Q) : tb_Wp E k d rc rs pc (a0 :: a1 :: a2 :: a3 :: a4 :: a5 :: some (.inl x) :: L) S M Q := tb_iinc0 v hd hp hi rfl hv rfl kk
theorem tb_iload_7 {a0 a1 a2 a3 a4 a5 a6 : tb_L} {x : Int32} {L : List tb_L} (hd : decode k.2.1 pc = .ok (.iload 7, 2)) (hp : pc + 2 = pc') (kk : tb_Wp E k d rc rs pc' (a0 :: a1 :: a2 :: a3 :: a4 :: a5 :: a6 :: some (.inl x) :: L) (.inl x :: S) M Q) : tb_Wp E k d rc rs pc (a0 :: a1 :: a2 :: a3 :: a4 :: a5 :: a6 :: some (.inl x) :: L) S M Q := tb_iload0 hd hp rfl kk
theorem tb_istore_7 {a0 a1 a2 a3 a4 a5 a6 : tb_L} {b : tb_L} {x : Int32} {L : List tb_L} (hd : decode k.2.1 pc = .ok (.istore 7, 2)) (hp : pc + 2 = pc') (hi : 7 < k.2.2.1) (kk : tb_Wp E k d rc rs pc' (a0 :: a1 :: a2 :: a3 :: a4 :: a5 :: a6 :: some (.inl x) :: L) S M Q) : tb_Wp E k d rc rs pc (a0 :: a1 :: a2 :: a3 :: a4 :: a5 :: a6 :: b :: L) (.inl x :: S) M Q := tb_istore0 hd hp hi rfl kk
theorem tb_aload_7 {a0 a1 a2 a3 a4 a5 a6 : tb_L} {x : Nat} {L : List tb_L} (hd : decode k.2.1 pc = .ok (.aload 7, 2)) (hp : pc + 2 = pc') (kk : tb_Wp E k d rc rs pc' (a0 :: a1 :: a2 :: a3 :: a4 :: a5 :: a6 :: some (.inr x) :: L) (.inr (.inl x) :: S) M Q) : tb_Wp E k d rc rs pc (a0 :: a1 :: a2 :: a3 :: a4 :: a5 :: a6 :: some (.inr x) :: L) S M Q := tb_aload0 hd hp rfl kk
theorem tb_astore_7 {a0 a1 a2 a3 a4 a5 a6 : tb_L} {b : tb_L} {x : Nat} {L : List tb_L} (hd : decode k.2.1 pc = .ok (.astore 7, 2)) (hp : pc + 2 = pc') (hi : 7 < k.2.2.1) (kk : tb_Wp E k d rc rs pc' (a0 :: a1 :: a2 :: a3 :: a4 :: a5 :: a6 :: some (.inr x) :: L) S M Q) : tb_Wp E k d rc rs pc (a0 :: a1 :: a2 :: a3 :: a4 :: a5 :: a6 :: b :: L) (.inr (.inl x) :: S) M Q := tb_astore0 hd hp hi rfl kk
theorem tb_iinc_7 {a0 a1 a2 a3 a4 a5 a6 : tb_L} {n : Int} {x : Int32} {L : List tb_L} (v : Int32) (hd : decode k.2.1 pc = .ok (.iinc 7 n, 3)) (hp : pc + 3 = pc') (hi : 7 < k.2.2.1) (hv : Int32.ofInt n = v) (kk : tb_Wp E k d rc rs pc' (a0 :: a1 :: a2 :: a3 :: a4 :: a5 :: a6 :: some (.inl (x + v)) :: L) S M Q) : tb_Wp E k d rc rs pc (a0 :: a1 :: a2 :: a3 :: a4 :: a5 :: a6 :: some (.inl x) :: L) S M Q := tb_iinc0 v hd hp hi rfl hv rfl kk
theorem tb_iload_8 {a0 a1 a2 a3 a4 a5 a6 a7 : tb_L} {x : Int32} {L : List tb_L} (hd : decode k.2.1 pc = .ok (.iload 8, 2)) (hp : pc + 2 = pc') (kk : tb_Wp E k d rc rs pc' (a0 :: a1 :: a2 :: a3 :: a4 :: a5 :: a6 :: a7 :: some (.inl x) :: L) (.inl x :: S) M Q) : tb_Wp E k d rc rs pc (a0 :: a1 :: a2 :: a3 :: a4 :: a5 :: a6 :: a7 :: some (.inl x) :: L) S M Q := tb_iload0 hd hp rfl kk
theorem tb_istore_8 {a0 a1 a2 a3 a4 a5 a6 a7 : tb_L} {b : tb_L} {x : Int32} {L : List tb_L} (hd : decode k.2.1 pc = .ok (.istore 8, 2)) (hp : pc + 2 = pc') (hi : 8 < k.2.2.1) (kk : tb_Wp E k d rc rs pc' (a0 :: a1 :: a2 :: a3 :: a4 :: a5 :: a6 :: a7 :: some (.inl x) :: L) S M Q) : tb_Wp E k d rc rs pc (a0 :: a1 :: a2 :: a3 :: a4 :: a5 :: a6 :: a7 :: b :: L) (.inl x :: S) M Q := tb_istore0 hd hp hi rfl kk
theorem tb_aload_8 {a0 a1 a2 a3 a4 a5 a6 a7 : tb_L} {x : Nat} {L : List tb_L} (hd : decode k.2.1 pc = .ok (.aload 8, 2)) (hp : pc + 2 = pc') (kk : tb_Wp E k d rc rs pc' (a0 :: a1 :: a2 :: a3 :: a4 :: a5 :: a6 :: a7 :: some (.inr x) :: L) (.inr (.inl x) :: S) M Q) : tb_Wp E k d rc rs pc (a0 :: a1 :: a2 :: a3 :: a4 :: a5 :: a6 :: a7 :: some (.inr x) :: L) S M Q := tb_aload0 hd hp rfl kk
theorem tb_astore_8 {a0 a1 a2 a3 a4 a5 a6 a7 : tb_L} {b : tb_L} {x : Nat} {L : List tb_L} (hd : decode k.2.1 pc = .ok (.astore 8, 2)) (hp : pc + 2 = pc') (hi : 8 < k.2.2.1) (kk : tb_Wp E k d rc rs pc' (a0 :: a1 :: a2 :: a3 :: a4 :: a5 :: a6 :: a7 :: some (.inr x) :: L) S M Q) : tb_Wp E k d rc rs pc (a0 :: a1 :: a2 :: a3 :: a4 :: a5 :: a6 :: a7 :: b :: L) (.inr (.inl x) :: S) M Q := tb_astore0 hd hp hi rfl kk
theorem tb_iinc_8 {a0 a1 a2 a3 a4 a5 a6 a7 : tb_L} {n : Int} {x : Int32} {L : List tb_L} (v : Int32) (hd : decode k.2.1 pc = .ok (.iinc 8 n, 3)) (hp : pc + 3 = pc') (hi : 8 < k.2.2.1) (hv : Int32.ofInt n = v) (kk : tb_Wp E k d rc rs pc' (a0 :: a1 :: a2 :: a3 :: a4 :: a5 :: a6 :: a7 :: some (.inl (x + v)) :: L) S M Q) : tb_Wp E k d rc rs pc (a0 :: a1 :: a2 :: a3 :: a4 :: a5 :: a6 :: a7 :: some (.inl x) :: L) S M Q := tb_iinc0 v hd hp hi rfl hv rfl kk
theorem tb_iload_9 {a0 a1 a2 a3 a4 a5 a6 a7 a8 : tb_L} {x : Int32} {L : List tb_L} (hd : decode k.2.1 pc = .ok (.iload 9, 2)) (hp : pc + 2 = pc') (kk : tb_Wp E k d rc rs pc' (a0 :: a1 :: a2 :: a3 :: a4 :: a5 :: a6 :: a7 :: a8 :: some (.inl x) :: L) (.inl x :: S) M Q) : tb_Wp E k d rc rs pc (a0 :: a1 :: a2 :: a3 :: a4 :: a5 :: a6 :: a7 :: a8 :: some (.inl x) :: L) S M Q := tb_iload0 hd hp rfl kk
theorem tb_istore_9 {a0 a1 a2 a3 a4 a5 a6 a7 a8 : tb_L} {b : tb_L} {x : Int32} {L : List tb_L} (hd : decode k.2.1 pc = .ok (.istore 9, 2)) (hp : pc + 2 = pc') (hi : 9 < k.2.2.1) (kk : tb_Wp E k d rc rs pc' (a0 :: a1 :: a2 :: a3 :: a4 :: a5 :: a6 :: a7 :: a8 :: some (.inl x) :: L) S M Q) : tb_Wp E k d rc rs pc (a0 :: a1 :: a2 :: a3 :: a4 :: a5 :: a6 :: a7 :: a8 :: b :: L) (.inl x :: S) M Q := tb_istore0 hd hp hi rfl kk
theorem tb_aload_9 {a0 a1 a2 a3 a4 a5 a6 a7 a8 : tb_L} {x : Nat} {L : List tb_L} (hd : decode k.2.1 pc = .ok (.aload 9, 2)) (hp : pc + 2 = pc') (kk : tb_Wp E k d rc rs pc' (a0 :: a1 :: a2 :: a3 :: a4 :: a5 :: a6 :: a7 :: a8 :: some (.inr x) :: L) (.inr (.inl x) :: S) M Q) : tb_Wp E k d rc rs pc (a0 :: a1 :: a2 :: a3 :: a4 :: a5 :: a6 :: a7 :: a8 :: some (.inr x) :: L) S M Q := tb_aload0 hd hp rfl kk
theorem tb_astore_9 {a0 a1 a2 a3 a4 a5 a6 a7 a8 : tb_L} {b : tb_L} {x : Nat} {L : List tb_L} (hd : decode k.2.1 pc = .ok (.astore 9, 2)) (hp : pc + 2 = pc') (hi : 9 < k.2.2.1) (kk : tb_Wp E k d rc rs pc' (a0 :: a1 :: a2 :: a3 :: a4 :: a5 :: a6 :: a7 :: a8 :: some (.inr x) :: L) S M Q) : tb_Wp E k d rc rs pc (a0 :: a1 :: a2 :: a3 :: a4 :: a5 :: a6 :: a7 :: a8 :: b :: L) (.inr (.inl x) :: S) M Q := tb_astore0 hd hp hi rfl kk
theorem tb_iinc_9 {a0 a1 a2 a3 a4 a5 a6 a7 a8 : tb_L} {n : Int} {x : Int32} {L : List tb_L} (v : Int32) (hd : decode k.2.1 pc = .ok (.iinc 9 n, 3)) (hp : pc + 3 = pc') (hi : 9 < k.2.2.1) (hv : Int32.ofInt n = v) (kk : tb_Wp E k d rc rs pc' (a0 :: a1 :: a2 :: a3 :: a4 :: a5 :: a6 :: a7 :: a8 :: some (.inl (x + v)) :: L) S M Q) : tb_Wp E k d rc rs pc (a0 :: a1 :: a2 :: a3 :: a4 :: a5 :: a6 :: a7 :: a8 :: some (.inl x) :: L) S M Q := tb_iinc0 v hd hp hi rfl hv rfl kk
theorem tb_iload_10 {a0 a1 a2 a3 a4 a5 a6 a7 a8 a9 : tb_L} {x : Int32} {L : List tb_L} (hd : decode k.2.1 pc = .ok (.iload 10, 2)) (hp : pc + 2 = pc') (kk : tb_Wp E k d rc rs pc' (a0 :: a1 :: a2 :: a3 :: a4 :: a5 :: a6 :: a7 :: a8 :: a9 :: some (.inl x) :: L) (.inl x :: S) M Q) : tb_Wp E k d rc rs pc (a0 :: a1 :: a2 :: a3 :: a4 :: a5 :: a6 :: a7 :: a8 :: a9 :: some (.inl x) :: L) S M Q := tb_iload0 hd hp rfl kk
theorem tb_istore_10 {a0 a1 a2 a3 a4 a5 a6 a7 a8 a9 : tb_L} {b : tb_L} {x : Int32} {L : List tb_L} (hd : decode k.2.1 pc = .ok (.istore 10, 2)) (hp : pc + 2 = pc') (hi : 10 < k.2.2.1) (kk : tb_Wp E k d rc rs pc' (a0 :: a1 :: a2 :: a3 :: a4 :: a5 :: a6 :: a7 :: a8 :: a9 :: some (.inl x) :: L) S M Q) : tb_Wp E k d rc rs pc (a0 :: a1 :: a2 :: a3 :: a4 :: a5 :: a6 :: a7 :: a8 :: a9 :: b :: L) (.inl x :: S) M Q := tb_istore0 hd hp hi rfl kk
theorem tb_aload_10 {a0 a1 a2 a3 a4 a5 a6 a7 a8 a9 : tb_L} {x : Nat} {L : List tb_L} (hd : decode k.2.1 pc = .ok (.aload 10, 2)) (hp : pc + 2 = pc') (kk : tb_Wp E k d rc rs pc' (a0 :: a1 :: a2 :: a3 :: a4 :: a5 :: a6 :: a7 :: a8 :: a9 :: some (.inr x) :: L) (.inr (.inl x) :: S) M Q) : tb_Wp E k d rc rs pc (a0 :: a1 :: a2 :: a3 :: a4 :: a5 :: a6 :: a7 :: a8 :: a9 :: some (.inr x) :: L) S M Q := tb_aload0 hd hp rfl kk
theorem tb_astore_10 {a0 a1 a2 a3 a4 a5 a6 a7 a8 a9 : tb_L} {b : tb_L} {x : Nat} {L : List tb_L} (hd : decode k.2.1 pc = .ok (.astore 10, 2)) (hp : pc + 2 = pc') (hi : 10 < k.2.2.1) (kk : tb_Wp E k d rc rs pc' (a0 :: a1 :: a2 :: a3 :: a4 :: a5 :: a6 :: a7 :: a8 :: a9 :: some (.inr x) :: L) S M Q) : tb_Wp E k d rc rs pc (a0 :: a1 :: a2 :: a3 :: a4 :: a5 :: a6 :: a7 :: a8 :: a9 :: b :: L) (.inr (.inl x) :: S) M Q := tb_astore0 hd hp hi rfl kk
theorem tb_iinc_10 {a0 a1 a2 a3 a4 a5 a6 a7 a8 a9 : tb_L} {n : Int} {x : Int32} {L : List tb_L} (v : Int32) (hd : decode k.2.1 pc = .ok (.iinc 10 n, 3)) (hp : pc + 3 = pc') (hi : 10 < k.2.2.1) (hv : Int32.ofInt n = v) (kk : tb_Wp E k d rc rs pc' (a0 :: a1 :: a2 :: a3 :: a4 :: a5 :: a6 :: a7 :: a8 :: a9 :: some (.inl (x + v)) :: L) S M Q) : tb_Wp E k d rc rs pc (a0 :: a1 :: a2 :: a3 :: a4 :: a5 :: a6 :: a7 :: a8 :: a9 :: some (.inl x) :: L) S M Q := tb_iinc0 v hd hp hi rfl hv rfl kk
theorem tb_iload_11 {a0 a1 a2 a3 a4 a5 a6 a7 a8 a9 a10 : tb_L} {x : Int32} {L : List tb_L} (hd : decode k.2.1 pc = .ok (.iload 11, 2)) (hp : pc + 2 = pc') (kk : tb_Wp E k d rc rs pc' (a0 :: a1 :: a2 :: a3 :: a4 :: a5 :: a6 :: a7 :: a8 :: a9 :: a10 :: some (.inl x) :: L) (.inl x :: S) M Q) : tb_Wp E k d rc rs pc (a0 :: a1 :: a2 :: a3 :: a4 :: a5 :: a6 :: a7 :: a8 :: a9 :: a10 :: some (.inl x) :: L) S M Q := tb_iload0 hd hp rfl kk
theorem tb_istore_11 {a0 a1 a2 a3 a4 a5 a6 a7 a8 a9 a10 : tb_L} {b : tb_L} {x : Int32} {L : List tb_L} (hd : decode k.2.1 pc = .ok (.istore 11, 2)) (hp : pc + 2 = pc') (hi : 11 < k.2.2.1) (kk : tb_Wp E k d rc rs pc' (a0 :: a1 :: a2 :: a3 :: a4 :: a5 :: a6 :: a7 :: a8 :: a9 :: a10 :: some (.inl x) :: L) S M Q) : tb_Wp E k d rc rs pc (a0 :: a1 :: a2 :: a3 :: a4 :: a5 :: a6 :: a7 :: a8 :: a9 :: a10 :: b :: L) (.inl x :: S) M Q := tb_istore0 hd hp hi rfl kk
theorem tb_aload_11 {a0 a1 a2 a3 a4 a5 a6 a7 a8 a9 a10 : tb_L} {x : Nat} {L : List tb_L} (hd : decode k.2.1 pc = .ok (.aload 11, 2)) (hp : pc + 2 = pc') (kk : tb_Wp E k d rc rs pc' (a0 :: a1 :: a2 :: a3 :: a4 :: a5 :: a6 :: a7 :: a8 :: a9 :: a10 :: some (.inr x) :: L) (.inr (.inl x) :: S) M Q) : tb_Wp E k d rc rs pc (a0 :: a1 :: a2 :: a3 :: a4 :: a5 :: a6 :: a7 :: a8 :: a9 :: a10 :: some (.inr x) :: L) S M Q := tb_aload0 hd hp rfl kk
theorem tb_astore_11 {a0 a1 a2 a3 a4 a5 a6 a7 a8 a9 a10 : tb_L} {b : tb_L} {x : Nat} {L : List tb_L} (hd : decode k.2.1 pc = .ok (.astore 11, 2)) (hp : pc + 2 = pc') (hi : 11 < k.2.2.1) (kk : tb_Wp E k d rc rs pc' (a0 :: a1 :: a2 :: a3 :: a4 :: a5 :: a6 :: a7 :: a8 :: a9 :: a10 :: some (.inr x) :: L) S M Q) : tb_Wp E k d rc rs pc (a0 :: a1 :: a2 :: a3 :: a4 :: a5 :: a6 :: a7 :: a8 :: a9 :: a10 :: b :: L) (.inr (.inl x) :: S) M Q := tb_astore0 hd hp hi rfl kk
theorem tb_iinc_11 {a0 a1 a2 a3 a4 a5 a6 a7 a8 a9 a10 : tb_L} {n : Int} {x : Int32} {L : List tb_L} (v : Int32) (hd : decode k.2.1 pc = .ok (.iinc 11 n, 3)) (hp : pc + 3 = pc') (hi : 11 < k.2.2.1) (hv : Int32.ofInt n = v) (kk : tb_Wp E k d rc rs pc' (a0 :: a1 :: a2 :: a3 :: a4 :: a5 :: a6 :: a7 :: a8 :: a9 :: a10 :: some (.inl (x + v)) :: L) S M Q) : tb_Wp E k d rc rs pc (a0 :: a1 :: a2 :: a3 :: a4 :: a5 :: a6 :: a7 :: a8 :: a9 :: a10 :: some (.inl x) :: L) S M Q := tb_iinc0 v hd hp hi rfl hv rfl kk
theorem tb_iload_12 {a0 a1 a2 a3 a4 a5 a6 a7 a8 a9 a10 a11 : tb_L} {x : Int32} {L : List tb_L} (hd : decode k.2.1 pc = .ok (.iload 12, 2)) (hp : pc + 2 = pc') (kk : tb_Wp E k d rc rs pc' (a0 :: a1 :: a2 :: a3 :: a4 :: a5 :: a6 :: a7 :: a8 :: a9 :: a10 :: a11 :: some (.inl x) :: L) (.inl x :: S) M Q) : tb_Wp E k d rc rs pc (a0 :: a1 :: a2 :: a3 :: a4 :: a5 :: a6 :: a7 :: a8 :: a9 :: a10 :: a11 :: some (.inl x) :: L) S M Q := tb_iload0 hd hp rfl kk
theorem tb_istore_12 {a0 a1 a2 a3 a4 a5 a6 a7 a8 a9 a10 a11 : tb_L} {b : tb_L} {x : Int32} {L : List tb_L} (hd : decode k.2.1 pc = .ok (.istore 12, 2)) (hp : pc + 2 = pc') (hi : 12 < k.2.2.1) (kk : tb_Wp E k d rc rs pc' (a0 :: a1 :: a2 :: a3 :: a4 :: a5 :: a6 :: a7 :: a8 :: a9 :: a10 :: a11 :: some (.inl x) :: L) S M Q) : tb_Wp E k d rc rs pc (a0 :: a1 :: a2 :: a3 :: a4 :: a5 :: a6 :: a7 :: a8 :: a9 :: a10 :: a11 :: b :: L) (.inl x :: S) M Q := tb_istore0 hd hp hi rfl kk
theorem tb_aload_12 {a0 a1 a2 a3 a4 a5 a6 a7 a8 a9 a10 a11 : tb_L} {x : Nat} {L : List tb_L} (hd : decode k.2.1 pc = .ok (.aload 12, 2)) (hp : pc + 2 = pc') (kk : tb_Wp E k d rc rs pc' (a0 :: a1 :: a2 :: a3 :: a4 :: a5 :: a6 :: a7 :: a8 :: a9 :: a10 :: a11 :: some (.inr x) :: L) (.inr (.inl x) :: S) M Q) : tb_Wp E k d rc rs pc (a0 :: a1 :: a2 :: a3 :: a4 :: a5 :: a6 :: a7 :: a8 :: a9 :: a10 :: a11 :: some (.inr x) :: L) S M Q := tb_aload0 hd hp rfl kk
theorem tb_astore_12 {a0 a1 a2 a3 a4 a5 a6 a7 a8 a9 a10 a11 : tb_L} {b : tb_L} {x : Nat} {L : List tb_L} (hd : decode k.2.1 pc = .ok (.astore 12, 2)) (hp : pc + 2 = pc') (hi : 12 < k.2.2.1) (kk : tb_Wp E k d rc rs pc' (a0 :: a1 :: a2 :: a3 :: a4 :: a5 :: a6 :: a7 :: a8 :: a9 :: a10 :: a11 :: some (.inr x) :: L) S M Q) : tb_Wp E k d rc rs pc (a0 :: a1 :: a2 :: a3 :: a4 :: a5 :: a6 :: a7 :: a8 :: a9 :: a10 :: a11 :: b :: L) (.inr (.inl x) :: S) M Q := tb_astore0 hd hp hi rfl kk
theorem tb_iinc_12 {a0 a1 a2 a3 a4 a5 a6 a7 a8 a9 a10 a11 : tb_L} {n : Int} {x : Int32} {L : List tb_L} (v : Int32) (hd : decode k.2.1 pc = .ok (.iinc 12 n, 3)) (hp : pc + 3 = pc') (hi : 12 < k.2.2.1) (hv : Int32.ofInt n = v) (kk : tb_Wp E k d rc rs pc' (a0 :: a1 :: a2 :: a3 :: a4 :: a5 :: a6 :: a7 :: a8 :: a9 :: a10 :: a11 :: some (.inl (x + v)) :: L) S M Q) : tb_Wp E k d rc rs pc (a0 :: a1 :: a2 :: a3 :: a4 :: a5 :: a6 :: a7 :: a8 :: a9 :: a10 :: a11 :: some (.inl x) :: L) S M Q := tb_iinc0 v hd hp hi rfl hv rfl kk
theorem tb_iload_13 {a0 a1 a2 a3 a4 a5 a6 a7 a8 a9 a10 a11 a12 : tb_L} {x : Int32} {L : List tb_L} (hd : decode k.2.1 pc = .ok (.iload 13, 2)) (hp : pc + 2 = pc') (kk : tb_Wp E k d rc rs pc' (a0 :: a1 :: a2 :: a3 :: a4 :: a5 :: a6 :: a7 :: a8 :: a9 :: a10 :: a11 :: a12 :: some (.inl x) :: L) (.inl x :: S) M Q) : tb_Wp E k d rc rs pc (a0 :: a1 :: a2 :: a3 :: a4 :: a5 :: a6 :: a7 :: a8 :: a9 :: a10 :: a11 :: a12 :: some (.inl x) :: L) S M Q := tb_iload0 hd hp rfl kk
theorem tb_istore_13 {a0 a1 a2 a3 a4 a5 a6 a7 a8 a9 a10 a11 a12 : tb_L} {b : tb_L} {x : Int32} {L : List tb_L} (hd : decode k.2.1 pc = .ok (.istore 13, 2)) (hp : pc + 2 = pc') (hi : 13 < k.2.2.1) (kk : tb_Wp E k d rc rs pc' (a0 :: a1 :: a2 :: a3 :: a4 :: a5 :: a6 :: a7 :: a8 :: a9 :: a10 :: a11 :: a12 :: some (.inl x) :: L) S M Q) : tb_Wp E k d rc rs pc (a0 :: a1 :: a2 :: a3 :: a4 :: a5 :: a6 :: a7 :: a8 :: a9 :: a10 :: a11 :: a12 :: b :: L) (.inl x :: S) M Q := tb_istore0 hd hp hi rfl kk
theorem tb_aload_13 {a0 a1 a2 a3 a4 a5 a6 a7 a8 a9 a10 a11 a12 : tb_L} {x : Nat} {L : List tb_L} (hd : decode k.2.1 pc = .ok (.aload 13, 2)) (hp : pc + 2 = pc') (kk : tb_Wp E k d rc rs pc' (a0 :: a1 :: a2 :: a3 :: a4 :: a5 :: a6 :: a7 :: a8 :: a9 :: a10 :: a11 :: a12 :: some (.inr x) :: L) (.inr (.inl x) :: S) M Q) : tb_Wp E k d rc rs pc (a0 :: a1 :: a2 :: a3 :: a4 :: a5 :: a6 :: a7 :: a8 :: a9 :: a10 :: a11 :: a12 :: some (.inr x) :: L) S M Q := tb_aload0 hd hp rfl kk
theorem tb_astore_13 {a0 a1 a2 a3 a4 a5 a6 a7 a8 a9 a10 a11 a12 : tb_L} {b : tb_L} {x : Nat} {L : List tb_L} (hd : decode k.2.1 pc = .ok (.astore 13, 2)) (hp : pc + 2 = pc') (hi : 13 < k.2.2.1) (kk : tb_Wp E k d rc rs pc' (a0 :: a1 :: a2 :: a3 :: a4 :: a5 :: a6 :: a7 :: a8 :: a9 :: a10 :: a11 :: a12 :: some (.inr x) :: L) S M Q) : tb_Wp E k d rc rs pc (a0 :: a1 :: a2 :: a3 :: a4 :: a5 :: a6 :: a7 :: a8 :: a9 :: a10 :: a11 :: a12 :: b :: L) (.inr (.inl x) :: S) M Q := tb_astore0 hd hp hi rfl kk
theorem tb_iinc_13 {a0 a1 a2 a3 a4 a5 a6 a7 a8 a9 a10 a11 a12 : tb_L} {n : Int} {x : Int32} {L : List tb_L} (v : Int32) (hd : decode k.2.1 pc = .ok (.iinc 13 n, 3)) (hp : pc + 3 = pc') (hi : 13 < k.2.2.1) (hv : Int32.ofInt n = v) (kk : tb_Wp E k d rc rs pc' (a0 :: a1 :: a2 :: a3 :: a4 :: a5 :: a6 :: a7 :: a8 :: a9 :: a10 :: a11 :: a12 :: some (.inl (x + v)) :: L) S M Q) : tb_Wp E k d rc rs pc (a0 :: a1 :: a2 :: a3 :: a4 :: a5 :: a6 :: a7 :: a8 :: a9 :: a10 :: a11 :: a12 :: some (.inl x) :: L) S M Q := tb_iinc0 v hd hp hi rfl hv rfl kk
end Rules
