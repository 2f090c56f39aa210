/-! One step of 'ev' is one step of the machine: each instruction. -/
section XQ
variable {p : Program} {l : Launch} {e : Env} {R : Room} {s : State} {m : MethodId} {args : Array Value} {below : List Frame} {meth : Method} {c : Code} {Q : State → Prop} {b B0 : Nat} {KA : Nat → ClassId} {D : va_G} {n0 : Nat}
variable {L : Nat} {xs : Nat → Int32} {j len a d pc : Nat} {v : Value} {t : List Nat} {ls : x_L} {st : List Value} {h : Hp} {q : Nat × x_L × List Value × Hp}
theorem x_vk0 {w : Value} (h : x_vk w = 0) : ∃ x, w = .int x := by cases w <;> first | exact ⟨_, rfl⟩ | cases h
theorem x_vk1 {w : Value} (h : x_vk w = 1) : ∃ x, w = .long x := by cases w <;> first | exact ⟨_, rfl⟩ | cases h
theorem x_vk2 {w : Value} (b B0 : Nat) (h : x_vk w = 2) : w.category = 1 ∧ (x_cv b B0 w = .null ∨ ∃ i, x_cv b B0 w = .ref i) := by cases w <;> first | exact ⟨rfl, Or.inl rfl⟩ | exact ⟨rfl, Or.inr ⟨_, rfl⟩⟩ | cases h
theorem q_iload_n {k : Fin 4} (C : x_CX p s m args meth c j L xs b B0 n0 KA D) (hs : x_step L xs j (0, 1, k.val, 0, v, t) pc ls st h = some (.inl q)) (hd : decode (MB j) pc = .ok (.iload_n k, 1)) (kk : x_WW p l e R s m args below meth c Q b B0 KA D n0 (ML j) q.1 q.2.1 q.2.2.1 q.2.2.2) : x_WW p l e R s m args below meth c Q b B0 KA D n0 (ML j) pc ls st h := by
  obtain ⟨w, hl, hk, rfl⟩ := inv0 hs
  obtain ⟨x, rfl⟩ := x_vk0 hk
  exact fun H locs sl P S O => lv_iload_n C.1 C.2.1 hd rfl (O.2.2.2 _ _ hl) (kk H locs sl P S O)
theorem q_lload_n {k : Fin 4} (C : x_CX p s m args meth c j L xs b B0 n0 KA D) (hs : x_step L xs j (0, 1, k.val, 1, v, t) pc ls st h = some (.inl q)) (hd : decode (MB j) pc = .ok (.lload_n k, 1)) (kk : x_WW p l e R s m args below meth c Q b B0 KA D n0 (ML j) q.1 q.2.1 q.2.2.1 q.2.2.2) : x_WW p l e R s m args below meth c Q b B0 KA D n0 (ML j) pc ls st h := by
  obtain ⟨w, hl, hk, rfl⟩ := inv0 hs
  obtain ⟨x, rfl⟩ := x_vk1 hk
  exact fun H locs sl P S O => lv_lload_n C.1 C.2.1 hd rfl (O.2.2.2 _ _ hl) (kk H locs sl P S O)
theorem q_aload_n {k : Fin 4} (C : x_CX p s m args meth c j L xs b B0 n0 KA D) (hs : x_step L xs j (0, 1, k.val, 2, v, t) pc ls st h = some (.inl q)) (hd : decode (MB j) pc = .ok (.aload_n k, 1)) (kk : x_WW p l e R s m args below meth c Q b B0 KA D n0 (ML j) q.1 q.2.1 q.2.2.1 q.2.2.2) : x_WW p l e R s m args below meth c Q b B0 KA D n0 (ML j) pc ls st h := by
  obtain ⟨w, hl, hk, rfl⟩ := inv0 hs
  intro H locs sl P S O
  have h1 := O.2.2.2 _ _ hl
  have h2 := kk H locs sl P S O
  rw [List.map_cons] at h2
  rcases (x_vk2 b B0 hk).2 with h3 | ⟨i, h3⟩
  · rw [h3] at h1 h2
    exact lv_aload_nN C.1 C.2.1 hd rfl h1 h2
  · rw [h3] at h1 h2
    exact lv_aload_n C.1 C.2.1 hd rfl h1 h2
theorem q_iload  (C : x_CX p s m args meth c j L xs b B0 n0 KA D) (hs : x_step L xs j (0, 2, a, 0, v, t) pc ls st h = some (.inl q)) (hd : decode (MB j) pc = .ok (.iload a, 2)) (kk : x_WW p l e R s m args below meth c Q b B0 KA D n0 (ML j) q.1 q.2.1 q.2.2.1 q.2.2.2) : x_WW p l e R s m args below meth c Q b B0 KA D n0 (ML j) pc ls st h := by
  obtain ⟨w, hl, hk, rfl⟩ := inv0 hs
  obtain ⟨x, rfl⟩ := x_vk0 hk
  exact fun H locs sl P S O => lv_iload C.1 C.2.1 hd (O.2.2.2 _ _ hl) (kk H locs sl P S O)
theorem q_lload  (C : x_CX p s m args meth c j L xs b B0 n0 KA D) (hs : x_step L xs j (0, 2, a, 1, v, t) pc ls st h = some (.inl q)) (hd : decode (MB j) pc = .ok (.lload a, 2)) (kk : x_WW p l e R s m args below meth c Q b B0 KA D n0 (ML j) q.1 q.2.1 q.2.2.1 q.2.2.2) : x_WW p l e R s m args below meth c Q b B0 KA D n0 (ML j) pc ls st h := by
  obtain ⟨w, hl, hk, rfl⟩ := inv0 hs
  obtain ⟨x, rfl⟩ := x_vk1 hk
  exact fun H locs sl P S O => lv_lload C.1 C.2.1 hd (O.2.2.2 _ _ hl) (kk H locs sl P S O)
theorem q_aload  (C : x_CX p s m args meth c j L xs b B0 n0 KA D) (hs : x_step L xs j (0, 2, a, 2, v, t) pc ls st h = some (.inl q)) (hd : decode (MB j) pc = .ok (.aload a, 2)) (kk : x_WW p l e R s m args below meth c Q b B0 KA D n0 (ML j) q.1 q.2.1 q.2.2.1 q.2.2.2) : x_WW p l e R s m args below meth c Q b B0 KA D n0 (ML j) pc ls st h := by
  obtain ⟨w, hl, hk, rfl⟩ := inv0 hs
  intro H locs sl P S O
  have h1 := O.2.2.2 _ _ hl
  have h2 := kk H locs sl P S O
  rw [List.map_cons] at h2
  rcases (x_vk2 b B0 hk).2 with h3 | ⟨i, h3⟩
  · rw [h3] at h1 h2
    exact lv_aloadN C.1 C.2.1 hd h1 h2
  · rw [h3] at h1 h2
    exact lv_aload C.1 C.2.1 hd h1 h2
theorem q_istore_n {k : Fin 4} (C : x_CX p s m args meth c j L xs b B0 n0 KA D) (hs : x_step L xs j (1, 1, k.val, 0, v, t) pc ls st h = some (.inl q)) (hd : decode (MB j) pc = .ok (.istore_n k, 1)) (kk : x_WW p l e R s m args below meth c Q b B0 KA D n0 (ML j) q.1 q.2.1 q.2.2.1 q.2.2.2) : x_WW p l e R s m args below meth c Q b B0 KA D n0 (ML j) pc ls st h := by
  obtain ⟨w, r, rfl, hk, hlt, rfl⟩ := inv1 hs
  obtain ⟨x, rfl⟩ := x_vk0 hk
  exact fun H locs sl P S O => lv_istore_n C.1 C.2.1 hd rfl O.has (by have := O.1; rw [this] at hlt; exact hlt) rfl fun sl' hl' => kk H locs sl' P S (O.st1 (a := k.val) (v := .int x) rfl hl')
theorem q_lstore_n {k : Fin 4} (C : x_CX p s m args meth c j L xs b B0 n0 KA D) (hs : x_step L xs j (1, 1, k.val, 1, v, t) pc ls st h = some (.inl q)) (hd : decode (MB j) pc = .ok (.lstore_n k, 1)) (kk : x_WW p l e R s m args below meth c Q b B0 KA D n0 (ML j) q.1 q.2.1 q.2.2.1 q.2.2.2) : x_WW p l e R s m args below meth c Q b B0 KA D n0 (ML j) pc ls st h := by
  obtain ⟨w, r, rfl, hk, hlt, rfl⟩ := inv1 hs
  obtain ⟨x, rfl⟩ := x_vk1 hk
  exact fun H locs sl P S O => lv_lstore_n C.1 C.2.1 hd rfl O.has (by have := O.1; rw [this] at hlt; exact hlt) rfl fun sl' hl' => kk H locs sl' P S (O.st2 (a := k.val) (v := .long x) rfl hl')
theorem q_astore_n {k : Fin 4} (C : x_CX p s m args meth c j L xs b B0 n0 KA D) (hs : x_step L xs j (1, 1, k.val, 2, v, t) pc ls st h = some (.inl q)) (hd : decode (MB j) pc = .ok (.astore_n k, 1)) (kk : x_WW p l e R s m args below meth c Q b B0 KA D n0 (ML j) q.1 q.2.1 q.2.2.1 q.2.2.2) : x_WW p l e R s m args below meth c Q b B0 KA D n0 (ML j) pc ls st h := by
  obtain ⟨w, r, rfl, hk, hlt, rfl⟩ := inv1 hs
  intro H locs sl P S O
  have hc := (x_vk2 b B0 hk).1
  rw [hc, Nat.add_sub_cancel, O.1] at hlt
  rw [List.map_cons]
  rcases (x_vk2 b B0 hk).2 with h3 | ⟨i, h3⟩
  · rw [h3]
    exact lv_astore_nN C.1 C.2.1 hd rfl O.has hlt rfl fun sl' hl' => kk H locs sl' P S (O.st1 (a := k.val) (v := w) hc (by rw [h3]; exact hl'))
  · rw [h3]
    exact lv_astore_n C.1 C.2.1 hd rfl O.has hlt rfl fun sl' hl' => kk H locs sl' P S (O.st1 (a := k.val) (v := w) hc (by rw [h3]; exact hl'))
theorem q_istore  (C : x_CX p s m args meth c j L xs b B0 n0 KA D) (hs : x_step L xs j (1, 2, a, 0, v, t) pc ls st h = some (.inl q)) (hd : decode (MB j) pc = .ok (.istore a, 2)) (kk : x_WW p l e R s m args below meth c Q b B0 KA D n0 (ML j) q.1 q.2.1 q.2.2.1 q.2.2.2) : x_WW p l e R s m args below meth c Q b B0 KA D n0 (ML j) pc ls st h := by
  obtain ⟨w, r, rfl, hk, hlt, rfl⟩ := inv1 hs
  obtain ⟨x, rfl⟩ := x_vk0 hk
  exact fun H locs sl P S O => lv_istore C.1 C.2.1 hd O.has (by have := O.1; rw [this] at hlt; exact hlt) rfl fun sl' hl' => kk H locs sl' P S (O.st1 (a := a) (v := .int x) rfl hl')
theorem q_lstore  (C : x_CX p s m args meth c j L xs b B0 n0 KA D) (hs : x_step L xs j (1, 2, a, 1, v, t) pc ls st h = some (.inl q)) (hd : decode (MB j) pc = .ok (.lstore a, 2)) (kk : x_WW p l e R s m args below meth c Q b B0 KA D n0 (ML j) q.1 q.2.1 q.2.2.1 q.2.2.2) : x_WW p l e R s m args below meth c Q b B0 KA D n0 (ML j) pc ls st h := by
  obtain ⟨w, r, rfl, hk, hlt, rfl⟩ := inv1 hs
  obtain ⟨x, rfl⟩ := x_vk1 hk
  exact fun H locs sl P S O => lv_lstore C.1 C.2.1 hd O.has (by have := O.1; rw [this] at hlt; exact hlt) rfl fun sl' hl' => kk H locs sl' P S (O.st2 (a := a) (v := .long x) rfl hl')
theorem q_astore  (C : x_CX p s m args meth c j L xs b B0 n0 KA D) (hs : x_step L xs j (1, 2, a, 2, v, t) pc ls st h = some (.inl q)) (hd : decode (MB j) pc = .ok (.astore a, 2)) (kk : x_WW p l e R s m args below meth c Q b B0 KA D n0 (ML j) q.1 q.2.1 q.2.2.1 q.2.2.2) : x_WW p l e R s m args below meth c Q b B0 KA D n0 (ML j) pc ls st h := by
  obtain ⟨w, r, rfl, hk, hlt, rfl⟩ := inv1 hs
  intro H locs sl P S O
  have hc := (x_vk2 b B0 hk).1
  rw [hc, Nat.add_sub_cancel, O.1] at hlt
  rw [List.map_cons]
  rcases (x_vk2 b B0 hk).2 with h3 | ⟨i, h3⟩
  · rw [h3]
    exact lv_astoreN C.1 C.2.1 hd O.has hlt rfl fun sl' hl' => kk H locs sl' P S (O.st1 (a := a) (v := w) hc (by rw [h3]; exact hl'))
  · rw [h3]
    exact lv_astore C.1 C.2.1 hd O.has hlt rfl fun sl' hl' => kk H locs sl' P S (O.st1 (a := a) (v := w) hc (by rw [h3]; exact hl'))
theorem q_iconst {n : Int} {w : Int32} (hv : Int32.ofInt n = w) (C : x_CX p s m args meth c j L xs b B0 n0 KA D) (hs : x_step L xs j (2, 1, a, d, .int w, t) pc ls st h = some (.inl q)) (hd : decode (MB j) pc = .ok (.iconst n, 1)) (kk : x_WW p l e R s m args below meth c Q b B0 KA D n0 (ML j) q.1 q.2.1 q.2.2.1 q.2.2.2) : x_WW p l e R s m args below meth c Q b B0 KA D n0 (ML j) pc ls st h := by
  obtain rfl := inv2 hs
  exact fun H locs sl P S O => lv_iconst C.1 C.2.1 hd hv (kk H locs sl P S O)
theorem q_bipush {n : Int} {w : Int32} (hv : (Int8.ofInt n).toInt32 = w) (C : x_CX p s m args meth c j L xs b B0 n0 KA D) (hs : x_step L xs j (2, 2, a, d, .int w, t) pc ls st h = some (.inl q)) (hd : decode (MB j) pc = .ok (.bipush n, 2)) (kk : x_WW p l e R s m args below meth c Q b B0 KA D n0 (ML j) q.1 q.2.1 q.2.2.1 q.2.2.2) : x_WW p l e R s m args below meth c Q b B0 KA D n0 (ML j) pc ls st h := by
  obtain rfl := inv2 hs
  exact fun H locs sl P S O => lv_bipush C.1 C.2.1 hd hv (kk H locs sl P S O)
theorem q_sipush {n : Int} {w : Int32} (hv : (Int16.ofInt n).toInt32 = w) (C : x_CX p s m args meth c j L xs b B0 n0 KA D) (hs : x_step L xs j (2, 3, a, d, .int w, t) pc ls st h = some (.inl q)) (hd : decode (MB j) pc = .ok (.sipush n, 3)) (kk : x_WW p l e R s m args below meth c Q b B0 KA D n0 (ML j) q.1 q.2.1 q.2.2.1 q.2.2.2) : x_WW p l e R s m args below meth c Q b B0 KA D n0 (ML j) pc ls st h := by
  obtain rfl := inv2 hs
  exact fun H locs sl P S O => lv_sipush C.1 C.2.1 hd hv (kk H locs sl P S O)
theorem q_lconst {n : Fin 2} {w : Int64} (hv : Int64.ofNat (n : Nat) = w) (C : x_CX p s m args meth c j L xs b B0 n0 KA D) (hs : x_step L xs j (2, 1, a, d, .long w, t) pc ls st h = some (.inl q)) (hd : decode (MB j) pc = .ok (.lconst n, 1)) (kk : x_WW p l e R s m args below meth c Q b B0 KA D n0 (ML j) q.1 q.2.1 q.2.2.1 q.2.2.2) : x_WW p l e R s m args below meth c Q b B0 KA D n0 (ML j) pc ls st h := by
  obtain rfl := inv2 hs
  exact fun H locs sl P S O => lv_lconst C.1 C.2.1 hd hv (kk H locs sl P S O)
theorem q_null  (C : x_CX p s m args meth c j L xs b B0 n0 KA D) (hs : x_step L xs j (2, 1, a, d, .null, t) pc ls st h = some (.inl q)) (hd : decode (MB j) pc = .ok (.aconst_null, 1)) (kk : x_WW p l e R s m args below meth c Q b B0 KA D n0 (ML j) q.1 q.2.1 q.2.2.1 q.2.2.2) : x_WW p l e R s m args below meth c Q b B0 KA D n0 (ML j) pc ls st h := by
  obtain rfl := inv2 hs
  exact fun H locs sl P S O => lv_null C.1 C.2.1 hd (kk H locs sl P S O)
theorem q_ldc {n : Nat} {w : Int32} (hw : Cond.constant (MN j).cls n w ∈ x_all) (C : x_CX p s m args meth c j L xs b B0 n0 KA D) (hs : x_step L xs j (2, 2, a, d, .int w, t) pc ls st h = some (.inl q)) (hd : decode (MB j) pc = .ok (.ldc n, 2)) (kk : x_WW p l e R s m args below meth c Q b B0 KA D n0 (ML j) q.1 q.2.1 q.2.2.1 q.2.2.2) : x_WW p l e R s m args below meth c Q b B0 KA D n0 (ML j) pc ls st h := by
  obtain rfl := inv2 hs
  exact fun H locs sl P S O => lv_ldc C.1 C.2.1 C.2.2.2.1 (C.2.2.2.2.1 _ hw) hd (kk H locs sl P S O)
theorem q_ldc_w {n : Nat} {w : Int32} (hw : Cond.constant (MN j).cls n w ∈ x_all) (C : x_CX p s m args meth c j L xs b B0 n0 KA D) (hs : x_step L xs j (2, 3, a, d, .int w, t) pc ls st h = some (.inl q)) (hd : decode (MB j) pc = .ok (.ldc_w n, 3)) (kk : x_WW p l e R s m args below meth c Q b B0 KA D n0 (ML j) q.1 q.2.1 q.2.2.1 q.2.2.2) : x_WW p l e R s m args below meth c Q b B0 KA D n0 (ML j) pc ls st h := by
  obtain rfl := inv2 hs
  exact fun H locs sl P S O => lv_ldcw C.1 C.2.1 C.2.2.2.1 (C.2.2.2.2.1 _ hw) hd (kk H locs sl P S O)
theorem q_ldc2_w {n : Nat} {w : Int64} (hw : Cond.constantLong (MN j).cls n w ∈ x_all) (C : x_CX p s m args meth c j L xs b B0 n0 KA D) (hs : x_step L xs j (2, 3, a, d, .long w, t) pc ls st h = some (.inl q)) (hd : decode (MB j) pc = .ok (.ldc2_w n, 3)) (kk : x_WW p l e R s m args below meth c Q b B0 KA D n0 (ML j) q.1 q.2.1 q.2.2.1 q.2.2.2) : x_WW p l e R s m args below meth c Q b B0 KA D n0 (ML j) pc ls st h := by
  obtain rfl := inv2 hs
  exact fun H locs sl P S O => lv_ldc2 C.1 C.2.1 C.2.2.2.1 (C.2.2.2.2.1 _ hw) hd (kk H locs sl P S O)
theorem q_iadd  (C : x_CX p s m args meth c j L xs b B0 n0 KA D) (hs : x_step L xs j (3, 1, 0, d, v, t) pc ls st h = some (.inl q)) (hd : decode (MB j) pc = .ok (.iadd, 1)) (kk : x_WW p l e R s m args below meth c Q b B0 KA D n0 (ML j) q.1 q.2.1 q.2.2.1 q.2.2.2) : x_WW p l e R s m args below meth c Q b B0 KA D n0 (ML j) pc ls st h := by
  obtain ⟨y, x, z0, r, rfl, hz, rfl⟩ := inv3 hs
  cases hz
  exact fun H locs sl P S O => lv_iadd C.1 C.2.1 hd (kk H locs sl P S O)
theorem q_isub  (C : x_CX p s m args meth c j L xs b B0 n0 KA D) (hs : x_step L xs j (3, 1, 1, d, v, t) pc ls st h = some (.inl q)) (hd : decode (MB j) pc = .ok (.isub, 1)) (kk : x_WW p l e R s m args below meth c Q b B0 KA D n0 (ML j) q.1 q.2.1 q.2.2.1 q.2.2.2) : x_WW p l e R s m args below meth c Q b B0 KA D n0 (ML j) pc ls st h := by
  obtain ⟨y, x, z0, r, rfl, hz, rfl⟩ := inv3 hs
  cases hz
  exact fun H locs sl P S O => lv_isub C.1 C.2.1 hd (kk H locs sl P S O)
theorem q_imul  (C : x_CX p s m args meth c j L xs b B0 n0 KA D) (hs : x_step L xs j (3, 1, 2, d, v, t) pc ls st h = some (.inl q)) (hd : decode (MB j) pc = .ok (.imul, 1)) (kk : x_WW p l e R s m args below meth c Q b B0 KA D n0 (ML j) q.1 q.2.1 q.2.2.1 q.2.2.2) : x_WW p l e R s m args below meth c Q b B0 KA D n0 (ML j) pc ls st h := by
  obtain ⟨y, x, z0, r, rfl, hz, rfl⟩ := inv3 hs
  cases hz
  exact fun H locs sl P S O => lv_imul C.1 C.2.1 hd (kk H locs sl P S O)
theorem q_idiv  (C : x_CX p s m args meth c j L xs b B0 n0 KA D) (hs : x_step L xs j (3, 1, 3, d, v, t) pc ls st h = some (.inl q)) (hd : decode (MB j) pc = .ok (.idiv, 1)) (kk : x_WW p l e R s m args below meth c Q b B0 KA D n0 (ML j) q.1 q.2.1 q.2.2.1 q.2.2.2) : x_WW p l e R s m args below meth c Q b B0 KA D n0 (ML j) pc ls st h := by
  obtain ⟨y, x, z0, r, rfl, hz, rfl⟩ := inv3 hs
  simp only [x_ib] at hz
  split at hz
  · cases hz
  · rename_i hne
    cases hz
    exact fun H locs sl P S O => lv_idiv C.1 C.2.1 hd hne (kk H locs sl P S O)
theorem q_irem  (C : x_CX p s m args meth c j L xs b B0 n0 KA D) (hs : x_step L xs j (3, 1, 4, d, v, t) pc ls st h = some (.inl q)) (hd : decode (MB j) pc = .ok (.irem, 1)) (kk : x_WW p l e R s m args below meth c Q b B0 KA D n0 (ML j) q.1 q.2.1 q.2.2.1 q.2.2.2) : x_WW p l e R s m args below meth c Q b B0 KA D n0 (ML j) pc ls st h := by
  obtain ⟨y, x, z0, r, rfl, hz, rfl⟩ := inv3 hs
  simp only [x_ib] at hz
  split at hz
  · cases hz
  · rename_i hne
    cases hz
    exact fun H locs sl P S O => lv_irem C.1 C.2.1 hd hne (kk H locs sl P S O)
theorem q_iand  (C : x_CX p s m args meth c j L xs b B0 n0 KA D) (hs : x_step L xs j (3, 1, 5, d, v, t) pc ls st h = some (.inl q)) (hd : decode (MB j) pc = .ok (.iand, 1)) (kk : x_WW p l e R s m args below meth c Q b B0 KA D n0 (ML j) q.1 q.2.1 q.2.2.1 q.2.2.2) : x_WW p l e R s m args below meth c Q b B0 KA D n0 (ML j) pc ls st h := by
  obtain ⟨y, x, z0, r, rfl, hz, rfl⟩ := inv3 hs
  cases hz
  exact fun H locs sl P S O => lv_iand C.1 C.2.1 hd (kk H locs sl P S O)
theorem q_ior  (C : x_CX p s m args meth c j L xs b B0 n0 KA D) (hs : x_step L xs j (3, 1, 6, d, v, t) pc ls st h = some (.inl q)) (hd : decode (MB j) pc = .ok (.ior, 1)) (kk : x_WW p l e R s m args below meth c Q b B0 KA D n0 (ML j) q.1 q.2.1 q.2.2.1 q.2.2.2) : x_WW p l e R s m args below meth c Q b B0 KA D n0 (ML j) pc ls st h := by
  obtain ⟨y, x, z0, r, rfl, hz, rfl⟩ := inv3 hs
  cases hz
  exact fun H locs sl P S O => lv_ior C.1 C.2.1 hd (kk H locs sl P S O)
theorem q_ixor  (C : x_CX p s m args meth c j L xs b B0 n0 KA D) (hs : x_step L xs j (3, 1, 7, d, v, t) pc ls st h = some (.inl q)) (hd : decode (MB j) pc = .ok (.ixor, 1)) (kk : x_WW p l e R s m args below meth c Q b B0 KA D n0 (ML j) q.1 q.2.1 q.2.2.1 q.2.2.2) : x_WW p l e R s m args below meth c Q b B0 KA D n0 (ML j) pc ls st h := by
  obtain ⟨y, x, z0, r, rfl, hz, rfl⟩ := inv3 hs
  cases hz
  exact fun H locs sl P S O => lv_ixor C.1 C.2.1 hd (kk H locs sl P S O)
theorem q_ishl  (C : x_CX p s m args meth c j L xs b B0 n0 KA D) (hs : x_step L xs j (3, 1, 8, d, v, t) pc ls st h = some (.inl q)) (hd : decode (MB j) pc = .ok (.ishl, 1)) (kk : x_WW p l e R s m args below meth c Q b B0 KA D n0 (ML j) q.1 q.2.1 q.2.2.1 q.2.2.2) : x_WW p l e R s m args below meth c Q b B0 KA D n0 (ML j) pc ls st h := by
  obtain ⟨y, x, z0, r, rfl, hz, rfl⟩ := inv3 hs
  cases hz
  exact fun H locs sl P S O => lv_ishl C.1 C.2.1 hd (kk H locs sl P S O)
theorem q_ishr  (C : x_CX p s m args meth c j L xs b B0 n0 KA D) (hs : x_step L xs j (3, 1, 9, d, v, t) pc ls st h = some (.inl q)) (hd : decode (MB j) pc = .ok (.ishr, 1)) (kk : x_WW p l e R s m args below meth c Q b B0 KA D n0 (ML j) q.1 q.2.1 q.2.2.1 q.2.2.2) : x_WW p l e R s m args below meth c Q b B0 KA D n0 (ML j) pc ls st h := by
  obtain ⟨y, x, z0, r, rfl, hz, rfl⟩ := inv3 hs
  cases hz
  exact fun H locs sl P S O => lv_ishr C.1 C.2.1 hd (kk H locs sl P S O)
theorem q_iushr  (C : x_CX p s m args meth c j L xs b B0 n0 KA D) (hs : x_step L xs j (3, 1, 10, d, v, t) pc ls st h = some (.inl q)) (hd : decode (MB j) pc = .ok (.iushr, 1)) (kk : x_WW p l e R s m args below meth c Q b B0 KA D n0 (ML j) q.1 q.2.1 q.2.2.1 q.2.2.2) : x_WW p l e R s m args below meth c Q b B0 KA D n0 (ML j) pc ls st h := by
  obtain ⟨y, x, z0, r, rfl, hz, rfl⟩ := inv3 hs
  cases hz
  exact fun H locs sl P S O => lv_iushr C.1 C.2.1 hd rfl (kk H locs sl P S O)
theorem q_ladd  (C : x_CX p s m args meth c j L xs b B0 n0 KA D) (hs : x_step L xs j (4, 1, 0, d, v, t) pc ls st h = some (.inl q)) (hd : decode (MB j) pc = .ok (.ladd, 1)) (kk : x_WW p l e R s m args below meth c Q b B0 KA D n0 (ML j) q.1 q.2.1 q.2.2.1 q.2.2.2) : x_WW p l e R s m args below meth c Q b B0 KA D n0 (ML j) pc ls st h := by
  obtain ⟨y, x, z0, r, rfl, hz, rfl⟩ := inv4 hs
  cases hz
  exact fun H locs sl P S O => lv_ladd C.1 C.2.1 hd (kk H locs sl P S O)
theorem q_lsub  (C : x_CX p s m args meth c j L xs b B0 n0 KA D) (hs : x_step L xs j (4, 1, 1, d, v, t) pc ls st h = some (.inl q)) (hd : decode (MB j) pc = .ok (.lsub, 1)) (kk : x_WW p l e R s m args below meth c Q b B0 KA D n0 (ML j) q.1 q.2.1 q.2.2.1 q.2.2.2) : x_WW p l e R s m args below meth c Q b B0 KA D n0 (ML j) pc ls st h := by
  obtain ⟨y, x, z0, r, rfl, hz, rfl⟩ := inv4 hs
  cases hz
  exact fun H locs sl P S O => lv_lsub C.1 C.2.1 hd (kk H locs sl P S O)
theorem q_lmul  (C : x_CX p s m args meth c j L xs b B0 n0 KA D) (hs : x_step L xs j (4, 1, 2, d, v, t) pc ls st h = some (.inl q)) (hd : decode (MB j) pc = .ok (.lmul, 1)) (kk : x_WW p l e R s m args below meth c Q b B0 KA D n0 (ML j) q.1 q.2.1 q.2.2.1 q.2.2.2) : x_WW p l e R s m args below meth c Q b B0 KA D n0 (ML j) pc ls st h := by
  obtain ⟨y, x, z0, r, rfl, hz, rfl⟩ := inv4 hs
  cases hz
  exact fun H locs sl P S O => lv_lmul C.1 C.2.1 hd (kk H locs sl P S O)
theorem q_ldiv  (C : x_CX p s m args meth c j L xs b B0 n0 KA D) (hs : x_step L xs j (4, 1, 3, d, v, t) pc ls st h = some (.inl q)) (hd : decode (MB j) pc = .ok (.ldiv, 1)) (kk : x_WW p l e R s m args below meth c Q b B0 KA D n0 (ML j) q.1 q.2.1 q.2.2.1 q.2.2.2) : x_WW p l e R s m args below meth c Q b B0 KA D n0 (ML j) pc ls st h := by
  obtain ⟨y, x, z0, r, rfl, hz, rfl⟩ := inv4 hs
  simp only [x_lb] at hz
  split at hz
  · cases hz
  · rename_i hne
    cases hz
    exact fun H locs sl P S O => lv_ldiv C.1 C.2.1 hd hne (kk H locs sl P S O)
theorem q_lrem  (C : x_CX p s m args meth c j L xs b B0 n0 KA D) (hs : x_step L xs j (4, 1, 4, d, v, t) pc ls st h = some (.inl q)) (hd : decode (MB j) pc = .ok (.lrem, 1)) (kk : x_WW p l e R s m args below meth c Q b B0 KA D n0 (ML j) q.1 q.2.1 q.2.2.1 q.2.2.2) : x_WW p l e R s m args below meth c Q b B0 KA D n0 (ML j) pc ls st h := by
  obtain ⟨y, x, z0, r, rfl, hz, rfl⟩ := inv4 hs
  simp only [x_lb] at hz
  split at hz
  · cases hz
  · rename_i hne
    cases hz
    exact fun H locs sl P S O => lv_lrem C.1 C.2.1 hd hne (kk H locs sl P S O)
theorem q_land  (C : x_CX p s m args meth c j L xs b B0 n0 KA D) (hs : x_step L xs j (4, 1, 5, d, v, t) pc ls st h = some (.inl q)) (hd : decode (MB j) pc = .ok (.land, 1)) (kk : x_WW p l e R s m args below meth c Q b B0 KA D n0 (ML j) q.1 q.2.1 q.2.2.1 q.2.2.2) : x_WW p l e R s m args below meth c Q b B0 KA D n0 (ML j) pc ls st h := by
  obtain ⟨y, x, z0, r, rfl, hz, rfl⟩ := inv4 hs
  cases hz
  exact fun H locs sl P S O => lv_land C.1 C.2.1 hd (kk H locs sl P S O)
theorem q_lor  (C : x_CX p s m args meth c j L xs b B0 n0 KA D) (hs : x_step L xs j (4, 1, 6, d, v, t) pc ls st h = some (.inl q)) (hd : decode (MB j) pc = .ok (.lor, 1)) (kk : x_WW p l e R s m args below meth c Q b B0 KA D n0 (ML j) q.1 q.2.1 q.2.2.1 q.2.2.2) : x_WW p l e R s m args below meth c Q b B0 KA D n0 (ML j) pc ls st h := by
  obtain ⟨y, x, z0, r, rfl, hz, rfl⟩ := inv4 hs
  cases hz
  exact fun H locs sl P S O => lv_lor C.1 C.2.1 hd (kk H locs sl P S O)
theorem q_lshl  (C : x_CX p s m args meth c j L xs b B0 n0 KA D) (hs : x_step L xs j (5, 1, a, d, v, t) pc ls st h = some (.inl q)) (hd : decode (MB j) pc = .ok (.lshl, 1)) (kk : x_WW p l e R s m args below meth c Q b B0 KA D n0 (ML j) q.1 q.2.1 q.2.2.1 q.2.2.2) : x_WW p l e R s m args below meth c Q b B0 KA D n0 (ML j) pc ls st h := by
  obtain ⟨y, x, r, rfl, rfl⟩ := inv5 hs
  exact fun H locs sl P S O => lv_lshl C.1 C.2.1 hd rfl (kk H locs sl P S O)
theorem q_ineg  (C : x_CX p s m args meth c j L xs b B0 n0 KA D) (hs : x_step L xs j (6, 1, 0, d, v, t) pc ls st h = some (.inl q)) (hd : decode (MB j) pc = .ok (.ineg, 1)) (kk : x_WW p l e R s m args below meth c Q b B0 KA D n0 (ML j) q.1 q.2.1 q.2.2.1 q.2.2.2) : x_WW p l e R s m args below meth c Q b B0 KA D n0 (ML j) pc ls st h := by
  obtain ⟨w, z0, r, rfl, hz, rfl⟩ := inv6 hs
  cases w with
  | int x =>
    cases hz
    exact fun H locs sl P S O => lv_ineg C.1 C.2.1 hd (kk H locs sl P S O)
  | _ => exact absurd hz (by simp [x_un])
theorem q_i2l  (C : x_CX p s m args meth c j L xs b B0 n0 KA D) (hs : x_step L xs j (6, 1, 1, d, v, t) pc ls st h = some (.inl q)) (hd : decode (MB j) pc = .ok (.i2l, 1)) (kk : x_WW p l e R s m args below meth c Q b B0 KA D n0 (ML j) q.1 q.2.1 q.2.2.1 q.2.2.2) : x_WW p l e R s m args below meth c Q b B0 KA D n0 (ML j) pc ls st h := by
  obtain ⟨w, z0, r, rfl, hz, rfl⟩ := inv6 hs
  cases w with
  | int x =>
    cases hz
    exact fun H locs sl P S O => lv_i2l C.1 C.2.1 hd rfl (kk H locs sl P S O)
  | _ => exact absurd hz (by simp [x_un])
theorem q_l2i  (C : x_CX p s m args meth c j L xs b B0 n0 KA D) (hs : x_step L xs j (6, 1, 2, d, v, t) pc ls st h = some (.inl q)) (hd : decode (MB j) pc = .ok (.l2i, 1)) (kk : x_WW p l e R s m args below meth c Q b B0 KA D n0 (ML j) q.1 q.2.1 q.2.2.1 q.2.2.2) : x_WW p l e R s m args below meth c Q b B0 KA D n0 (ML j) pc ls st h := by
  obtain ⟨w, z0, r, rfl, hz, rfl⟩ := inv6 hs
  cases w with
  | long x =>
    cases hz
    exact fun H locs sl P S O => lv_l2i C.1 C.2.1 hd rfl (kk H locs sl P S O)
  | _ => exact absurd hz (by simp [x_un])
theorem q_i2b  (C : x_CX p s m args meth c j L xs b B0 n0 KA D) (hs : x_step L xs j (6, 1, 3, d, v, t) pc ls st h = some (.inl q)) (hd : decode (MB j) pc = .ok (.i2b, 1)) (kk : x_WW p l e R s m args below meth c Q b B0 KA D n0 (ML j) q.1 q.2.1 q.2.2.1 q.2.2.2) : x_WW p l e R s m args below meth c Q b B0 KA D n0 (ML j) pc ls st h := by
  obtain ⟨w, z0, r, rfl, hz, rfl⟩ := inv6 hs
  cases w with
  | int x =>
    cases hz
    exact fun H locs sl P S O => lv_i2b C.1 C.2.1 hd rfl (kk H locs sl P S O)
  | _ => exact absurd hz (by simp [x_un])
theorem q_i2s  (C : x_CX p s m args meth c j L xs b B0 n0 KA D) (hs : x_step L xs j (6, 1, 4, d, v, t) pc ls st h = some (.inl q)) (hd : decode (MB j) pc = .ok (.i2s, 1)) (kk : x_WW p l e R s m args below meth c Q b B0 KA D n0 (ML j) q.1 q.2.1 q.2.2.1 q.2.2.2) : x_WW p l e R s m args below meth c Q b B0 KA D n0 (ML j) pc ls st h := by
  obtain ⟨w, z0, r, rfl, hz, rfl⟩ := inv6 hs
  cases w with
  | int x =>
    cases hz
    exact fun H locs sl P S O => lv_i2s C.1 C.2.1 hd rfl (kk H locs sl P S O)
  | _ => exact absurd hz (by simp [x_un])
theorem q_lcmp  (C : x_CX p s m args meth c j L xs b B0 n0 KA D) (hs : x_step L xs j (7, 1, a, d, v, t) pc ls st h = some (.inl q)) (hd : decode (MB j) pc = .ok (.lcmp, 1)) (kk : x_WW p l e R s m args below meth c Q b B0 KA D n0 (ML j) q.1 q.2.1 q.2.2.1 q.2.2.2) : x_WW p l e R s m args below meth c Q b B0 KA D n0 (ML j) pc ls st h := by
  obtain ⟨y, x, r, rfl, rfl⟩ := inv7 hs
  exact fun H locs sl P S O => W.lcmp C.1 C.2.1 hd (kk H locs sl P S O)
theorem x_beq1 {w : Value} (h : Nat.beq w.category 1 = true) (b B0 : Nat) : (x_cv b B0 w).category = 1 := by rw [x_cv_cat]; exact Nat.eq_of_beq_eq_true h
theorem x_stk0 {st r : List Value} (h : x_stk 0 st = some r) : ∃ v q, st = v :: q ∧ Nat.beq v.category 1 = true ∧ r = v :: v :: q := by
  cases st with
  | nil => cases h
  | cons v q =>
    simp only [x_stk, Bool.cond_eq_ite] at h
    split at h
    · rename_i hb
      exact ⟨v, q, rfl, hb, (Option.some.inj h).symm⟩
    · cases h
theorem x_stk1 {st r : List Value} (h : x_stk 1 st = some r) : ∃ v, st = v :: r ∧ Nat.beq v.category 1 = true := by
  cases st with
  | nil => cases h
  | cons v q =>
    simp only [x_stk, Bool.cond_eq_ite] at h
    split at h
    · rename_i hb
      cases h
      exact ⟨v, rfl, hb⟩
    · cases h
theorem x_stk2 {st r : List Value} (h : x_stk 2 st = some r) : ∃ v w q, st = v :: w :: q ∧ Nat.beq v.category 1 = true ∧ Nat.beq w.category 1 = true ∧ r = v :: w :: v :: w :: q := by
  cases st with
  | nil => cases h
  | cons v q => cases q with
    | nil => cases h
    | cons w q =>
      simp only [x_stk, Bool.cond_eq_ite, Bool.and_eq_true] at h
      split at h
      · rename_i hb
        exact ⟨v, w, q, rfl, hb.1, hb.2, (Option.some.inj h).symm⟩
      · cases h
theorem x_stk3 {st r : List Value} (h : x_stk 3 st = some r) : ∃ v w q, st = v :: w :: q ∧ Nat.beq v.category 1 = true ∧ Nat.beq w.category 1 = true ∧ r = v :: w :: v :: q := by
  cases st with
  | nil => cases h
  | cons v q => cases q with
    | nil => cases h
    | cons w q =>
      simp only [x_stk, Bool.cond_eq_ite, Bool.and_eq_true] at h
      split at h
      · rename_i hb
        exact ⟨v, w, q, rfl, hb.1, hb.2, (Option.some.inj h).symm⟩
      · cases h
theorem q_dup  (C : x_CX p s m args meth c j L xs b B0 n0 KA D) (hs : x_step L xs j (8, 1, 0, d, v, t) pc ls st h = some (.inl q)) (hd : decode (MB j) pc = .ok (.dup, 1)) (kk : x_WW p l e R s m args below meth c Q b B0 KA D n0 (ML j) q.1 q.2.1 q.2.2.1 q.2.2.2) : x_WW p l e R s m args below meth c Q b B0 KA D n0 (ML j) pc ls st h := by
  obtain ⟨r, hr, rfl⟩ := inv8 hs
  obtain ⟨w, r', rfl, h1, rfl⟩ := x_stk0 hr
  exact fun H locs sl P S O => lv_dup C.1 C.2.1 hd (x_beq1 h1 b B0) (kk H locs sl P S O)
theorem q_pop  (C : x_CX p s m args meth c j L xs b B0 n0 KA D) (hs : x_step L xs j (8, 1, 1, d, v, t) pc ls st h = some (.inl q)) (hd : decode (MB j) pc = .ok (.pop, 1)) (kk : x_WW p l e R s m args below meth c Q b B0 KA D n0 (ML j) q.1 q.2.1 q.2.2.1 q.2.2.2) : x_WW p l e R s m args below meth c Q b B0 KA D n0 (ML j) pc ls st h := by
  obtain ⟨r, hr, rfl⟩ := inv8 hs
  obtain ⟨w, rfl, h1⟩ := x_stk1 hr
  exact fun H locs sl P S O => lv_pop C.1 C.2.1 hd (x_beq1 h1 b B0) (kk H locs sl P S O)
theorem q_dup2  (C : x_CX p s m args meth c j L xs b B0 n0 KA D) (hs : x_step L xs j (8, 1, 2, d, v, t) pc ls st h = some (.inl q)) (hd : decode (MB j) pc = .ok (.dup2, 1)) (kk : x_WW p l e R s m args below meth c Q b B0 KA D n0 (ML j) q.1 q.2.1 q.2.2.1 q.2.2.2) : x_WW p l e R s m args below meth c Q b B0 KA D n0 (ML j) pc ls st h := by
  obtain ⟨r, hr, rfl⟩ := inv8 hs
  obtain ⟨w, w', r', rfl, h1, h2, rfl⟩ := x_stk2 hr
  exact fun H locs sl P S O => lv_dup2_11 C.1 C.2.1 hd (x_beq1 h1 b B0) (x_beq1 h2 b B0) (kk H locs sl P S O)
theorem q_dup_x1  (C : x_CX p s m args meth c j L xs b B0 n0 KA D) (hs : x_step L xs j (8, 1, 3, d, v, t) pc ls st h = some (.inl q)) (hd : decode (MB j) pc = .ok (.dup_x1, 1)) (kk : x_WW p l e R s m args below meth c Q b B0 KA D n0 (ML j) q.1 q.2.1 q.2.2.1 q.2.2.2) : x_WW p l e R s m args below meth c Q b B0 KA D n0 (ML j) pc ls st h := by
  obtain ⟨r, hr, rfl⟩ := inv8 hs
  obtain ⟨w, w', r', rfl, h1, h2, rfl⟩ := x_stk3 hr
  exact fun H locs sl P S O => lv_dup_x1 C.1 C.2.1 hd (x_beq1 h1 b B0) (x_beq1 h2 b B0) (kk H locs sl P S O)
theorem q_ifCond_eq {off : Int} (ht : (pc : Int) + off = (a : Int)) (C : x_CX p s m args meth c j L xs b B0 n0 KA D) (hs : x_step L xs j (9, 3, a, 0, v, t) pc ls st h = some (.inl q)) (hd : decode (MB j) pc = .ok (.ifCond .eq off, 3)) (kk : x_WW p l e R s m args below meth c Q b B0 KA D n0 (ML j) q.1 q.2.1 q.2.2.1 q.2.2.2) : x_WW p l e R s m args below meth c Q b B0 KA D n0 (ML j) pc ls st h := by
  obtain ⟨x, r, rfl, hq⟩ := inv9 hs
  simp only [x_cd, decide_eq_true_eq, decide_eq_false_iff_not] at hq
  intro H locs sl P S O
  refine lv_if_eq C.1 C.2.1 hd ht (fun hc => ?_) (fun hc => ?_)
  · rcases hq with ⟨_, rfl⟩ | ⟨hn, _⟩
    · exact kk H locs sl P S O
    · exact absurd hc hn
  · rcases hq with ⟨hn, _⟩ | ⟨_, rfl⟩
    · exact absurd hn hc
    · exact kk H locs sl P S O
theorem q_if_icmp_eq {off : Int} (ht : (pc : Int) + off = (a : Int)) (C : x_CX p s m args meth c j L xs b B0 n0 KA D) (hs : x_step L xs j (10, 3, a, 0, v, t) pc ls st h = some (.inl q)) (hd : decode (MB j) pc = .ok (.if_icmp .eq off, 3)) (kk : x_WW p l e R s m args below meth c Q b B0 KA D n0 (ML j) q.1 q.2.1 q.2.2.1 q.2.2.2) : x_WW p l e R s m args below meth c Q b B0 KA D n0 (ML j) pc ls st h := by
  obtain ⟨y, x, r, rfl, hq⟩ := inv10 hs
  simp only [x_cd, decide_eq_true_eq, decide_eq_false_iff_not] at hq
  intro H locs sl P S O
  refine lv_icmp_eq C.1 C.2.1 hd ht (fun hc => ?_) (fun hc => ?_)
  · rcases hq with ⟨_, rfl⟩ | ⟨hn, _⟩
    · exact kk H locs sl P S O
    · exact absurd hc hn
  · rcases hq with ⟨hn, _⟩ | ⟨_, rfl⟩
    · exact absurd hn hc
    · exact kk H locs sl P S O
theorem q_ifCond_ne {off : Int} (ht : (pc : Int) + off = (a : Int)) (C : x_CX p s m args meth c j L xs b B0 n0 KA D) (hs : x_step L xs j (9, 3, a, 1, v, t) pc ls st h = some (.inl q)) (hd : decode (MB j) pc = .ok (.ifCond .ne off, 3)) (kk : x_WW p l e R s m args below meth c Q b B0 KA D n0 (ML j) q.1 q.2.1 q.2.2.1 q.2.2.2) : x_WW p l e R s m args below meth c Q b B0 KA D n0 (ML j) pc ls st h := by
  obtain ⟨x, r, rfl, hq⟩ := inv9 hs
  simp only [x_cd, decide_eq_true_eq, decide_eq_false_iff_not, Decidable.not_not] at hq
  intro H locs sl P S O
  refine lv_if_ne C.1 C.2.1 hd ht (fun hc => ?_) (fun hc => ?_)
  · rcases hq with ⟨_, rfl⟩ | ⟨hn, _⟩
    · exact kk H locs sl P S O
    · exact absurd hn hc
  · rcases hq with ⟨hn, _⟩ | ⟨_, rfl⟩
    · exact absurd hc hn
    · exact kk H locs sl P S O
theorem q_if_icmp_ne {off : Int} (ht : (pc : Int) + off = (a : Int)) (C : x_CX p s m args meth c j L xs b B0 n0 KA D) (hs : x_step L xs j (10, 3, a, 1, v, t) pc ls st h = some (.inl q)) (hd : decode (MB j) pc = .ok (.if_icmp .ne off, 3)) (kk : x_WW p l e R s m args below meth c Q b B0 KA D n0 (ML j) q.1 q.2.1 q.2.2.1 q.2.2.2) : x_WW p l e R s m args below meth c Q b B0 KA D n0 (ML j) pc ls st h := by
  obtain ⟨y, x, r, rfl, hq⟩ := inv10 hs
  simp only [x_cd, decide_eq_true_eq, decide_eq_false_iff_not, Decidable.not_not] at hq
  intro H locs sl P S O
  refine lv_icmp_ne C.1 C.2.1 hd ht (fun hc => ?_) (fun hc => ?_)
  · rcases hq with ⟨_, rfl⟩ | ⟨hn, _⟩
    · exact kk H locs sl P S O
    · exact absurd hn hc
  · rcases hq with ⟨hn, _⟩ | ⟨_, rfl⟩
    · exact absurd hc hn
    · exact kk H locs sl P S O
theorem q_ifCond_lt {off : Int} (ht : (pc : Int) + off = (a : Int)) (C : x_CX p s m args meth c j L xs b B0 n0 KA D) (hs : x_step L xs j (9, 3, a, 2, v, t) pc ls st h = some (.inl q)) (hd : decode (MB j) pc = .ok (.ifCond .lt off, 3)) (kk : x_WW p l e R s m args below meth c Q b B0 KA D n0 (ML j) q.1 q.2.1 q.2.2.1 q.2.2.2) : x_WW p l e R s m args below meth c Q b B0 KA D n0 (ML j) pc ls st h := by
  obtain ⟨x, r, rfl, hq⟩ := inv9 hs
  simp only [x_cd, decide_eq_true_eq, decide_eq_false_iff_not] at hq
  intro H locs sl P S O
  refine lv_if_lt C.1 C.2.1 hd ht (fun hc => ?_) (fun hc => ?_)
  · rcases hq with ⟨_, rfl⟩ | ⟨hn, _⟩
    · exact kk H locs sl P S O
    · exact absurd hc hn
  · rcases hq with ⟨hn, _⟩ | ⟨_, rfl⟩
    · exact absurd hn hc
    · exact kk H locs sl P S O
theorem q_if_icmp_lt {off : Int} (ht : (pc : Int) + off = (a : Int)) (C : x_CX p s m args meth c j L xs b B0 n0 KA D) (hs : x_step L xs j (10, 3, a, 2, v, t) pc ls st h = some (.inl q)) (hd : decode (MB j) pc = .ok (.if_icmp .lt off, 3)) (kk : x_WW p l e R s m args below meth c Q b B0 KA D n0 (ML j) q.1 q.2.1 q.2.2.1 q.2.2.2) : x_WW p l e R s m args below meth c Q b B0 KA D n0 (ML j) pc ls st h := by
  obtain ⟨y, x, r, rfl, hq⟩ := inv10 hs
  simp only [x_cd, decide_eq_true_eq, decide_eq_false_iff_not] at hq
  intro H locs sl P S O
  refine lv_icmp_lt C.1 C.2.1 hd ht (fun hc => ?_) (fun hc => ?_)
  · rcases hq with ⟨_, rfl⟩ | ⟨hn, _⟩
    · exact kk H locs sl P S O
    · exact absurd hc hn
  · rcases hq with ⟨hn, _⟩ | ⟨_, rfl⟩
    · exact absurd hn hc
    · exact kk H locs sl P S O
theorem q_ifCond_ge {off : Int} (ht : (pc : Int) + off = (a : Int)) (C : x_CX p s m args meth c j L xs b B0 n0 KA D) (hs : x_step L xs j (9, 3, a, 3, v, t) pc ls st h = some (.inl q)) (hd : decode (MB j) pc = .ok (.ifCond .ge off, 3)) (kk : x_WW p l e R s m args below meth c Q b B0 KA D n0 (ML j) q.1 q.2.1 q.2.2.1 q.2.2.2) : x_WW p l e R s m args below meth c Q b B0 KA D n0 (ML j) pc ls st h := by
  obtain ⟨x, r, rfl, hq⟩ := inv9 hs
  simp only [x_cd, decide_eq_true_eq, decide_eq_false_iff_not] at hq
  intro H locs sl P S O
  refine lv_if_ge C.1 C.2.1 hd ht (fun hc => ?_) (fun hc => ?_)
  · rcases hq with ⟨_, rfl⟩ | ⟨hn, _⟩
    · exact kk H locs sl P S O
    · exact absurd hc hn
  · rcases hq with ⟨hn, _⟩ | ⟨_, rfl⟩
    · exact absurd hn hc
    · exact kk H locs sl P S O
theorem q_if_icmp_ge {off : Int} (ht : (pc : Int) + off = (a : Int)) (C : x_CX p s m args meth c j L xs b B0 n0 KA D) (hs : x_step L xs j (10, 3, a, 3, v, t) pc ls st h = some (.inl q)) (hd : decode (MB j) pc = .ok (.if_icmp .ge off, 3)) (kk : x_WW p l e R s m args below meth c Q b B0 KA D n0 (ML j) q.1 q.2.1 q.2.2.1 q.2.2.2) : x_WW p l e R s m args below meth c Q b B0 KA D n0 (ML j) pc ls st h := by
  obtain ⟨y, x, r, rfl, hq⟩ := inv10 hs
  simp only [x_cd, decide_eq_true_eq, decide_eq_false_iff_not] at hq
  intro H locs sl P S O
  refine lv_icmp_ge C.1 C.2.1 hd ht (fun hc => ?_) (fun hc => ?_)
  · rcases hq with ⟨_, rfl⟩ | ⟨hn, _⟩
    · exact kk H locs sl P S O
    · exact absurd hc hn
  · rcases hq with ⟨hn, _⟩ | ⟨_, rfl⟩
    · exact absurd hn hc
    · exact kk H locs sl P S O
theorem q_ifCond_gt {off : Int} (ht : (pc : Int) + off = (a : Int)) (C : x_CX p s m args meth c j L xs b B0 n0 KA D) (hs : x_step L xs j (9, 3, a, 4, v, t) pc ls st h = some (.inl q)) (hd : decode (MB j) pc = .ok (.ifCond .gt off, 3)) (kk : x_WW p l e R s m args below meth c Q b B0 KA D n0 (ML j) q.1 q.2.1 q.2.2.1 q.2.2.2) : x_WW p l e R s m args below meth c Q b B0 KA D n0 (ML j) pc ls st h := by
  obtain ⟨x, r, rfl, hq⟩ := inv9 hs
  simp only [x_cd, decide_eq_true_eq, decide_eq_false_iff_not] at hq
  intro H locs sl P S O
  refine lv_if_gt C.1 C.2.1 hd ht (fun hc => ?_) (fun hc => ?_)
  · rcases hq with ⟨_, rfl⟩ | ⟨hn, _⟩
    · exact kk H locs sl P S O
    · exact absurd hc hn
  · rcases hq with ⟨hn, _⟩ | ⟨_, rfl⟩
    · exact absurd hn hc
    · exact kk H locs sl P S O
theorem q_if_icmp_gt {off : Int} (ht : (pc : Int) + off = (a : Int)) (C : x_CX p s m args meth c j L xs b B0 n0 KA D) (hs : x_step L xs j (10, 3, a, 4, v, t) pc ls st h = some (.inl q)) (hd : decode (MB j) pc = .ok (.if_icmp .gt off, 3)) (kk : x_WW p l e R s m args below meth c Q b B0 KA D n0 (ML j) q.1 q.2.1 q.2.2.1 q.2.2.2) : x_WW p l e R s m args below meth c Q b B0 KA D n0 (ML j) pc ls st h := by
  obtain ⟨y, x, r, rfl, hq⟩ := inv10 hs
  simp only [x_cd, decide_eq_true_eq, decide_eq_false_iff_not] at hq
  intro H locs sl P S O
  refine lv_icmp_gt C.1 C.2.1 hd ht (fun hc => ?_) (fun hc => ?_)
  · rcases hq with ⟨_, rfl⟩ | ⟨hn, _⟩
    · exact kk H locs sl P S O
    · exact absurd hc hn
  · rcases hq with ⟨hn, _⟩ | ⟨_, rfl⟩
    · exact absurd hn hc
    · exact kk H locs sl P S O
theorem q_ifCond_le {off : Int} (ht : (pc : Int) + off = (a : Int)) (C : x_CX p s m args meth c j L xs b B0 n0 KA D) (hs : x_step L xs j (9, 3, a, 5, v, t) pc ls st h = some (.inl q)) (hd : decode (MB j) pc = .ok (.ifCond .le off, 3)) (kk : x_WW p l e R s m args below meth c Q b B0 KA D n0 (ML j) q.1 q.2.1 q.2.2.1 q.2.2.2) : x_WW p l e R s m args below meth c Q b B0 KA D n0 (ML j) pc ls st h := by
  obtain ⟨x, r, rfl, hq⟩ := inv9 hs
  simp only [x_cd, decide_eq_true_eq, decide_eq_false_iff_not] at hq
  intro H locs sl P S O
  refine lv_if_le C.1 C.2.1 hd ht (fun hc => ?_) (fun hc => ?_)
  · rcases hq with ⟨_, rfl⟩ | ⟨hn, _⟩
    · exact kk H locs sl P S O
    · exact absurd hc hn
  · rcases hq with ⟨hn, _⟩ | ⟨_, rfl⟩
    · exact absurd hn hc
    · exact kk H locs sl P S O
theorem q_if_icmp_le {off : Int} (ht : (pc : Int) + off = (a : Int)) (C : x_CX p s m args meth c j L xs b B0 n0 KA D) (hs : x_step L xs j (10, 3, a, 5, v, t) pc ls st h = some (.inl q)) (hd : decode (MB j) pc = .ok (.if_icmp .le off, 3)) (kk : x_WW p l e R s m args below meth c Q b B0 KA D n0 (ML j) q.1 q.2.1 q.2.2.1 q.2.2.2) : x_WW p l e R s m args below meth c Q b B0 KA D n0 (ML j) pc ls st h := by
  obtain ⟨y, x, r, rfl, hq⟩ := inv10 hs
  simp only [x_cd, decide_eq_true_eq, decide_eq_false_iff_not] at hq
  intro H locs sl P S O
  refine lv_icmp_le C.1 C.2.1 hd ht (fun hc => ?_) (fun hc => ?_)
  · rcases hq with ⟨_, rfl⟩ | ⟨hn, _⟩
    · exact kk H locs sl P S O
    · exact absurd hc hn
  · rcases hq with ⟨hn, _⟩ | ⟨_, rfl⟩
    · exact absurd hn hc
    · exact kk H locs sl P S O
theorem q_ifnull {off : Int} (ht : (pc : Int) + off = (a : Int)) (C : x_CX p s m args meth c j L xs b B0 n0 KA D) (hs : x_step L xs j (11, 3, a, 0, v, t) pc ls st h = some (.inl q)) (hd : decode (MB j) pc = .ok (.ifnull off, 3)) (kk : x_WW p l e R s m args below meth c Q b B0 KA D n0 (ML j) q.1 q.2.1 q.2.2.1 q.2.2.2) : x_WW p l e R s m args below meth c Q b B0 KA D n0 (ML j) pc ls st h := by
  obtain ⟨r, ⟨rfl, rfl⟩ | ⟨i, rfl, rfl⟩⟩ := inv11 hs
  · exact fun H locs sl P S O => lv_ifnullN C.1 C.2.1 hd ht (kk H locs sl P S O)
  · exact fun H locs sl P S O => lv_ifnull C.1 C.2.1 hd (kk H locs sl P S O)
theorem q_ifnonnull {off : Int} (ht : (pc : Int) + off = (a : Int)) (C : x_CX p s m args meth c j L xs b B0 n0 KA D) (hs : x_step L xs j (11, 3, a, 1, v, t) pc ls st h = some (.inl q)) (hd : decode (MB j) pc = .ok (.ifnonnull off, 3)) (kk : x_WW p l e R s m args below meth c Q b B0 KA D n0 (ML j) q.1 q.2.1 q.2.2.1 q.2.2.2) : x_WW p l e R s m args below meth c Q b B0 KA D n0 (ML j) pc ls st h := by
  obtain ⟨r, ⟨rfl, rfl⟩ | ⟨i, rfl, rfl⟩⟩ := inv11 hs
  · exact fun H locs sl P S O => lv_ifnonnullN C.1 C.2.1 hd (kk H locs sl P S O)
  · exact fun H locs sl P S O => lv_ifnonnull C.1 C.2.1 hd ht (kk H locs sl P S O)
theorem q_goto {off : Int} (ht : (pc : Int) + off = (a : Int)) (C : x_CX p s m args meth c j L xs b B0 n0 KA D) (hs : x_step L xs j (12, 3, a, d, v, t) pc ls st h = some (.inl q)) (hd : decode (MB j) pc = .ok (.goto off, 3)) (kk : x_WW p l e R s m args below meth c Q b B0 KA D n0 (ML j) q.1 q.2.1 q.2.2.1 q.2.2.2) : x_WW p l e R s m args below meth c Q b B0 KA D n0 (ML j) pc ls st h := by
  obtain rfl := inv12 hs
  exact fun H locs sl P S O => lv_goto C.1 C.2.1 hd ht (kk H locs sl P S O)
theorem q_tableswitch {dd lo hi : Int} {offs : Array Int} (h1 : (pc : Int) + dd = (a : Int)) (h2 : lo = (d : Int)) (h3 : hi + 1 = lo + t.length) (h4 : offs.toList.map (fun o => (pc : Int) + o) = t.map (fun (n : Nat) => (n : Int))) (C : x_CX p s m args meth c j L xs b B0 n0 KA D) (hs : x_step L xs j (13, len, a, d, v, t) pc ls st h = some (.inl q)) (hd : decode (MB j) pc = .ok (.tableswitch dd lo hi offs, len)) (kk : x_WW p l e R s m args below meth c Q b B0 KA D n0 (ML j) q.1 q.2.1 q.2.2.1 q.2.2.2) : x_WW p l e R s m args below meth c Q b B0 KA D n0 (ML j) pc ls st h := by
  obtain ⟨x, r, rfl, rfl⟩ := inv13 hs
  intro H locs sl P S O
  have k2 := kk H locs sl P S O
  subst h2
  by_cases hx : x.toInt < (d : Int) ∨ (d : Int) + t.length ≤ x.toInt
  · have e1 : x_tgt x d t a = a := by
      unfold x_tgt
      rw [show (decide (x.toInt < (d : Int)) || decide ((d : Int) + t.length ≤ x.toInt)) = true by simpa using hx, cond_true]
    rw [e1] at k2
    exact lv_tableOut C.1 C.2.1 hd (by omega) h1 k2
  · have e1 : x_tgt x d t a = t.getD (x.toInt - d).toNat a := by
      unfold x_tgt
      rw [show (decide (x.toInt < (d : Int)) || decide ((d : Int) + t.length ≤ x.toInt)) = false by simpa using hx, cond_false]
    rw [e1] at k2
    have hlt : (x.toInt - d).toNat < t.length := by omega
    have hlen : offs.toList.length = t.length := by
      have := congrArg List.length h4
      simpa using this
    have hlt2 : (x.toInt - d).toNat < offs.toList.length := by omega
    have h5 : (offs.toList.map (fun o => (pc : Int) + o))[(x.toInt - d).toNat]? = (t.map (fun (n : Nat) => (n : Int)))[(x.toInt - d).toNat]? := by rw [h4]
    rw [List.getElem?_map, List.getElem?_map, List.getElem?_eq_getElem hlt, List.getElem?_eq_getElem hlt2] at h5
    have h6 := Option.some.inj h5
    refine lv_tableIn (off := offs.toList[(x.toInt - d).toNat]) C.1 C.2.1 hd (by omega) (by omega) ?_ (tgt := t[(x.toInt - d).toNat]) h6 ?_
    · rw [← Array.getElem?_toList, List.getElem?_eq_getElem hlt2]
    · rw [List.getD_eq_getElem?_getD, List.getElem?_eq_getElem hlt] at k2
      exact k2
theorem q_iinc {n : Int} {w : Int32} (hv : w = Int32.ofInt n) (C : x_CX p s m args meth c j L xs b B0 n0 KA D) (hs : x_step L xs j (15, 3, a, d, .int w, t) pc ls st h = some (.inl q)) (hd : decode (MB j) pc = .ok (.iinc a n, 3)) (kk : x_WW p l e R s m args below meth c Q b B0 KA D n0 (ML j) q.1 q.2.1 q.2.2.1 q.2.2.2) : x_WW p l e R s m args below meth c Q b B0 KA D n0 (ML j) pc ls st h := by
  obtain ⟨x, hl, rfl⟩ := inv15 hs
  intro H locs sl P S O
  have hm : (a, Value.int x) ∈ x_prs b B0 ls := x_prs_mem.mpr ⟨_, hl, rfl⟩
  obtain ⟨k, hk⟩ := List.getElem?_of_mem hm
  have hlt : a < ML j := by have := (List.getElem?_eq_some_iff.mp hl).1; rw [O.1] at this; exact this
  subst hv
  exact lv_iinc C.1 C.2.1 hd O.has hk rfl hlt rfl fun sl' hl' => kk H locs sl' P S (O.st1 (a := a) (v := .int (x + Int32.ofInt n)) rfl hl')
end XQ
