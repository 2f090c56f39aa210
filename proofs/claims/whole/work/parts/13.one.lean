/-! One step of 'ev' is one step of the machine: any instruction but calls and returns. -/
set_option maxHeartbeats 4000000 in
theorem x_one {p : Program} {l : Launch} {e : Env} {R : Room} {s : State} {m : MethodId} {args : Array Value} {below : List Frame} {meth : Method} {c : Code} {Q : State → Prop} {b B0 : Nat} {KA : Nat → ClassId} {D : va_G} {n0 L : Nat} {xs : Nat → Int32} {j pc ix : Nat} {ls : x_L} {st : List Value} {h : Hp} {q : Nat × x_L × List Value × Hp} {en : x_E} {i : Instr} (C : x_CX p s m args meth c j L xs b B0 n0 KA D) (hs : x_step L xs j en pc ls st h = some (.inl q)) (hd : decode (MB j) pc = .ok (i, en.2.1)) (hk : x_ck j pc en i ix = true) (hfr : MF j ≤ R.frames) (hlo : MO j ≤ R.locals) (hn : n0 ≤ h.1) (hcap : q.2.2.2.1 - n0 ≤ R.cells ∧ x_ss q.2.2.2.1 - x_ss n0 ≤ R.slots) (kk : x_WW p l e R s m args below meth c Q b B0 KA D n0 (ML j) q.1 q.2.1 q.2.2.1 q.2.2.2) : x_WW p l e R s m args below meth c Q b B0 KA D n0 (ML j) pc ls st h := by
  obtain ⟨o, len, a, d, v, t⟩ := en
  cases i with
  | iload_n k =>
    simp only [x_ck, decide_eq_true_eq] at hk
    obtain ⟨rfl, rfl, rfl, rfl⟩ := hk
    exact q_iload_n C hs hd kk
  | iload k =>
    simp only [x_ck, decide_eq_true_eq] at hk
    obtain ⟨rfl, rfl, rfl, rfl⟩ := hk
    exact q_iload C hs hd kk
  | lload_n k =>
    simp only [x_ck, decide_eq_true_eq] at hk
    obtain ⟨rfl, rfl, rfl, rfl⟩ := hk
    exact q_lload_n C hs hd kk
  | lload k =>
    simp only [x_ck, decide_eq_true_eq] at hk
    obtain ⟨rfl, rfl, rfl, rfl⟩ := hk
    exact q_lload C hs hd kk
  | aload_n k =>
    simp only [x_ck, decide_eq_true_eq] at hk
    obtain ⟨rfl, rfl, rfl, rfl⟩ := hk
    exact q_aload_n C hs hd kk
  | aload k =>
    simp only [x_ck, decide_eq_true_eq] at hk
    obtain ⟨rfl, rfl, rfl, rfl⟩ := hk
    exact q_aload C hs hd kk
  | istore_n k =>
    simp only [x_ck, decide_eq_true_eq] at hk
    obtain ⟨rfl, rfl, rfl, rfl⟩ := hk
    exact q_istore_n C hs hd kk
  | istore k =>
    simp only [x_ck, decide_eq_true_eq] at hk
    obtain ⟨rfl, rfl, rfl, rfl⟩ := hk
    exact q_istore C hs hd kk
  | lstore_n k =>
    simp only [x_ck, decide_eq_true_eq] at hk
    obtain ⟨rfl, rfl, rfl, rfl⟩ := hk
    exact q_lstore_n C hs hd kk
  | lstore k =>
    simp only [x_ck, decide_eq_true_eq] at hk
    obtain ⟨rfl, rfl, rfl, rfl⟩ := hk
    exact q_lstore C hs hd kk
  | astore_n k =>
    simp only [x_ck, decide_eq_true_eq] at hk
    obtain ⟨rfl, rfl, rfl, rfl⟩ := hk
    exact q_astore_n C hs hd kk
  | astore k =>
    simp only [x_ck, decide_eq_true_eq] at hk
    obtain ⟨rfl, rfl, rfl, rfl⟩ := hk
    exact q_astore C hs hd kk
  | iconst n =>
    simp only [x_ck, decide_eq_true_eq] at hk
    obtain ⟨rfl, rfl, rfl⟩ := hk
    exact q_iconst rfl C hs hd kk
  | bipush n =>
    simp only [x_ck, decide_eq_true_eq] at hk
    obtain ⟨rfl, rfl, rfl⟩ := hk
    exact q_bipush rfl C hs hd kk
  | sipush n =>
    simp only [x_ck, decide_eq_true_eq] at hk
    obtain ⟨rfl, rfl, rfl⟩ := hk
    exact q_sipush rfl C hs hd kk
  | lconst n =>
    simp only [x_ck, decide_eq_true_eq] at hk
    obtain ⟨rfl, rfl, rfl⟩ := hk
    exact q_lconst rfl C hs hd kk
  | aconst_null =>
    simp only [x_ck, decide_eq_true_eq] at hk
    obtain ⟨rfl, rfl, rfl⟩ := hk
    exact q_null C hs hd kk
  | ldc n =>
    cases v <;> simp only [x_ck, Bool.false_eq_true, Bool.and_eq_true, decide_eq_true_eq] at hk
    obtain ⟨⟨rfl, rfl⟩, hw⟩ := hk
    exact q_ldc (x_wd_in hw) C hs hd kk
  | ldc_w n =>
    cases v <;> simp only [x_ck, Bool.false_eq_true, Bool.and_eq_true, decide_eq_true_eq] at hk
    obtain ⟨⟨rfl, rfl⟩, hw⟩ := hk
    exact q_ldc_w (x_wd_in hw) C hs hd kk
  | ldc2_w n =>
    cases v <;> simp only [x_ck, Bool.false_eq_true, Bool.and_eq_true, decide_eq_true_eq] at hk
    obtain ⟨⟨rfl, rfl⟩, hw⟩ := hk
    exact q_ldc2_w (x_wd_in hw) C hs hd kk
  | iadd =>
    simp only [x_ck, decide_eq_true_eq] at hk
    obtain ⟨rfl, rfl, rfl⟩ := hk
    exact q_iadd C hs hd kk
  | isub =>
    simp only [x_ck, decide_eq_true_eq] at hk
    obtain ⟨rfl, rfl, rfl⟩ := hk
    exact q_isub C hs hd kk
  | imul =>
    simp only [x_ck, decide_eq_true_eq] at hk
    obtain ⟨rfl, rfl, rfl⟩ := hk
    exact q_imul C hs hd kk
  | idiv =>
    simp only [x_ck, decide_eq_true_eq] at hk
    obtain ⟨rfl, rfl, rfl⟩ := hk
    exact q_idiv C hs hd kk
  | irem =>
    simp only [x_ck, decide_eq_true_eq] at hk
    obtain ⟨rfl, rfl, rfl⟩ := hk
    exact q_irem C hs hd kk
  | iand =>
    simp only [x_ck, decide_eq_true_eq] at hk
    obtain ⟨rfl, rfl, rfl⟩ := hk
    exact q_iand C hs hd kk
  | ior =>
    simp only [x_ck, decide_eq_true_eq] at hk
    obtain ⟨rfl, rfl, rfl⟩ := hk
    exact q_ior C hs hd kk
  | ixor =>
    simp only [x_ck, decide_eq_true_eq] at hk
    obtain ⟨rfl, rfl, rfl⟩ := hk
    exact q_ixor C hs hd kk
  | ishl =>
    simp only [x_ck, decide_eq_true_eq] at hk
    obtain ⟨rfl, rfl, rfl⟩ := hk
    exact q_ishl C hs hd kk
  | ishr =>
    simp only [x_ck, decide_eq_true_eq] at hk
    obtain ⟨rfl, rfl, rfl⟩ := hk
    exact q_ishr C hs hd kk
  | iushr =>
    simp only [x_ck, decide_eq_true_eq] at hk
    obtain ⟨rfl, rfl, rfl⟩ := hk
    exact q_iushr C hs hd kk
  | ladd =>
    simp only [x_ck, decide_eq_true_eq] at hk
    obtain ⟨rfl, rfl, rfl⟩ := hk
    exact q_ladd C hs hd kk
  | lsub =>
    simp only [x_ck, decide_eq_true_eq] at hk
    obtain ⟨rfl, rfl, rfl⟩ := hk
    exact q_lsub C hs hd kk
  | lmul =>
    simp only [x_ck, decide_eq_true_eq] at hk
    obtain ⟨rfl, rfl, rfl⟩ := hk
    exact q_lmul C hs hd kk
  | ldiv =>
    simp only [x_ck, decide_eq_true_eq] at hk
    obtain ⟨rfl, rfl, rfl⟩ := hk
    exact q_ldiv C hs hd kk
  | lrem =>
    simp only [x_ck, decide_eq_true_eq] at hk
    obtain ⟨rfl, rfl, rfl⟩ := hk
    exact q_lrem C hs hd kk
  | land =>
    simp only [x_ck, decide_eq_true_eq] at hk
    obtain ⟨rfl, rfl, rfl⟩ := hk
    exact q_land C hs hd kk
  | lor =>
    simp only [x_ck, decide_eq_true_eq] at hk
    obtain ⟨rfl, rfl, rfl⟩ := hk
    exact q_lor C hs hd kk
  | ineg =>
    simp only [x_ck, decide_eq_true_eq] at hk
    obtain ⟨rfl, rfl, rfl⟩ := hk
    exact q_ineg C hs hd kk
  | i2l =>
    simp only [x_ck, decide_eq_true_eq] at hk
    obtain ⟨rfl, rfl, rfl⟩ := hk
    exact q_i2l C hs hd kk
  | l2i =>
    simp only [x_ck, decide_eq_true_eq] at hk
    obtain ⟨rfl, rfl, rfl⟩ := hk
    exact q_l2i C hs hd kk
  | i2b =>
    simp only [x_ck, decide_eq_true_eq] at hk
    obtain ⟨rfl, rfl, rfl⟩ := hk
    exact q_i2b C hs hd kk
  | i2s =>
    simp only [x_ck, decide_eq_true_eq] at hk
    obtain ⟨rfl, rfl, rfl⟩ := hk
    exact q_i2s C hs hd kk
  | dup =>
    simp only [x_ck, decide_eq_true_eq] at hk
    obtain ⟨rfl, rfl, rfl⟩ := hk
    exact q_dup C hs hd kk
  | pop =>
    simp only [x_ck, decide_eq_true_eq] at hk
    obtain ⟨rfl, rfl, rfl⟩ := hk
    exact q_pop C hs hd kk
  | dup2 =>
    simp only [x_ck, decide_eq_true_eq] at hk
    obtain ⟨rfl, rfl, rfl⟩ := hk
    exact q_dup2 C hs hd kk
  | dup_x1 =>
    simp only [x_ck, decide_eq_true_eq] at hk
    obtain ⟨rfl, rfl, rfl⟩ := hk
    exact q_dup_x1 C hs hd kk
  | iaload =>
    simp only [x_ck, decide_eq_true_eq] at hk
    obtain ⟨rfl, rfl, rfl⟩ := hk
    exact q_iaload C hs hd kk
  | laload =>
    simp only [x_ck, decide_eq_true_eq] at hk
    obtain ⟨rfl, rfl, rfl⟩ := hk
    exact q_laload C hs hd kk
  | baload =>
    simp only [x_ck, decide_eq_true_eq] at hk
    obtain ⟨rfl, rfl, rfl⟩ := hk
    exact q_baload C hs hd kk
  | aaload =>
    simp only [x_ck, decide_eq_true_eq] at hk
    obtain ⟨rfl, rfl, rfl⟩ := hk
    exact q_aaload C hs hd kk
  | iastore =>
    simp only [x_ck, decide_eq_true_eq] at hk
    obtain ⟨rfl, rfl, rfl⟩ := hk
    exact q_iastore C hs hd kk
  | lastore =>
    simp only [x_ck, decide_eq_true_eq] at hk
    obtain ⟨rfl, rfl, rfl⟩ := hk
    exact q_lastore C hs hd kk
  | bastore =>
    simp only [x_ck, decide_eq_true_eq] at hk
    obtain ⟨rfl, rfl, rfl⟩ := hk
    exact q_bastore C hs hd kk
  | aastore =>
    simp only [x_ck, decide_eq_true_eq] at hk
    obtain ⟨rfl, rfl, rfl⟩ := hk
    exact q_aastore C hs hd kk
  | lshl =>
    simp only [x_ck, decide_eq_true_eq] at hk
    obtain ⟨rfl, rfl⟩ := hk
    exact q_lshl C hs hd kk
  | lcmp =>
    simp only [x_ck, decide_eq_true_eq] at hk
    obtain ⟨rfl, rfl⟩ := hk
    exact q_lcmp C hs hd kk
  | arraylength =>
    simp only [x_ck, decide_eq_true_eq] at hk
    obtain ⟨rfl, rfl⟩ := hk
    exact q_arraylength C hs hd kk
  | ifCond y off =>
    cases y <;> simp only [x_ck, decide_eq_true_eq] at hk <;> obtain ⟨rfl, rfl, ht, rfl⟩ := hk
    · exact q_ifCond_eq ht C hs hd kk
    · exact q_ifCond_ne ht C hs hd kk
    · exact q_ifCond_lt ht C hs hd kk
    · exact q_ifCond_ge ht C hs hd kk
    · exact q_ifCond_gt ht C hs hd kk
    · exact q_ifCond_le ht C hs hd kk
  | if_icmp y off =>
    cases y <;> simp only [x_ck, decide_eq_true_eq] at hk <;> obtain ⟨rfl, rfl, ht, rfl⟩ := hk
    · exact q_if_icmp_eq ht C hs hd kk
    · exact q_if_icmp_ne ht C hs hd kk
    · exact q_if_icmp_lt ht C hs hd kk
    · exact q_if_icmp_ge ht C hs hd kk
    · exact q_if_icmp_gt ht C hs hd kk
    · exact q_if_icmp_le ht C hs hd kk
  | ifnull off =>
    simp only [x_ck, decide_eq_true_eq] at hk
    obtain ⟨rfl, rfl, ht, rfl⟩ := hk
    exact q_ifnull ht C hs hd kk
  | ifnonnull off =>
    simp only [x_ck, decide_eq_true_eq] at hk
    obtain ⟨rfl, rfl, ht, rfl⟩ := hk
    exact q_ifnonnull ht C hs hd kk
  | goto off =>
    simp only [x_ck, decide_eq_true_eq] at hk
    obtain ⟨rfl, rfl, ht⟩ := hk
    exact q_goto ht C hs hd kk
  | tableswitch dd lo hi offs =>
    simp only [x_ck, decide_eq_true_eq] at hk
    obtain ⟨rfl, h1, h2, h3, h4⟩ := hk
    exact q_tableswitch h1 h2 h3 h4 C hs hd kk
  | lookupswitch dd ps =>
    simp only [x_ck, decide_eq_true_eq] at hk
    obtain ⟨rfl, h0, h1, h2, -⟩ := hk
    exact q_lookupswitch h0 h1 h2 C hs hd kk
  | iinc k n =>
    simp only [x_ck, decide_eq_true_eq] at hk
    obtain ⟨rfl, rfl, rfl, rfl⟩ := hk
    exact q_iinc rfl C hs hd kk
  | getfield n =>
    simp only [x_ck, decide_eq_true_eq, Bool.and_eq_true, x_fld, Nat.blt_eq] at hk
    obtain ⟨⟨rfl, rfl⟩, ha, hdn, hr, hw⟩ := hk
    exact q_getfield ha hdn hr (x_wd_in hw) C hs hd kk
  | putfield n =>
    simp only [x_ck, decide_eq_true_eq, Bool.and_eq_true, Bool.or_eq_true, x_fld, Nat.blt_eq] at hk
    obtain ⟨⟨rfl, rfl⟩, ⟨ha, hdn, hr, hw⟩, hfin⟩ := hk
    exact q_putfield ha hdn hr (x_wd_in hw) hfin C hs hd kk
  | new n =>
    simp only [x_ck, decide_eq_true_eq, Bool.and_eq_true] at hk
    obtain ⟨⟨rfl, rfl, ha⟩, hw⟩ := hk
    exact q_new hn hcap ha (x_wd_in hw) C hs hd kk
  | newarray y =>
    simp only [x_ck, decide_eq_true_eq] at hk
    obtain ⟨rfl, rfl, hat, ha⟩ := hk
    exact q_newarray hn hcap hat ha C hs hd kk
  | anewarray n =>
    simp only [x_ck, decide_eq_true_eq, Bool.and_eq_true] at hk
    obtain ⟨⟨rfl, rfl, ha⟩, hw⟩ := hk
    exact q_anewarray hn hcap (x_wd_in hw) ha C hs hd kk
  | invokevirtual n =>
    simp only [x_ck, Bool.and_eq_true, decide_eq_true_eq] at hk
    obtain ⟨⟨rfl, rfl, rfl⟩, -⟩ := hk
    rcases inv24 hs with ⟨-, hq, -⟩ | ⟨-, hq, -⟩ <;> cases hq
  | invokespecial n =>
    simp only [x_ck, Bool.and_eq_true, Bool.or_eq_true, decide_eq_true_eq] at hk
    rcases hk with ⟨⟨rfl, rfl, rfl, -, -⟩, -⟩ | ⟨⟨rfl, rfl, rfl, -, -⟩, -⟩ | ⟨⟨rfl, rfl, h1, h2⟩, hw⟩
    · rcases inv24 hs with ⟨-, hq, -⟩ | ⟨-, hq, -⟩ <;> cases hq
    · rcases inv24 hs with ⟨-, hq, -⟩ | ⟨-, hq, -⟩ <;> cases hq
    · exact q_objinit (x_wd_in hw) ⟨Nat.le_trans h1 hfr, Nat.le_trans h2 hlo⟩ C hs hd kk
  | invokestatic n =>
    simp only [x_ck, Bool.and_eq_true, Bool.or_eq_true, decide_eq_true_eq] at hk
    rcases hk with ⟨⟨rfl, rfl, rfl⟩, hl⟩ | ⟨⟨rfl, rfl, rfl⟩, -⟩ | ⟨⟨rfl, rfl, h1, h2⟩, hw⟩
    · rcases inv24 hs with ⟨rfl, -, -⟩ | ⟨rfl, -, -⟩
      · simp only [x_lnk, Bool.and_eq_true, Nat.blt_eq, show Nat.blt 2 3 = true from rfl, cond_true] at hl
        have e1 : 8 + (ML 196 + 11) + MO 196 ≤ MO j := Nat.le_of_ble_eq_true hl.2.2.1
        have e2 : MF 196 < MF j := hl.2.1
        have e3 : ML 196 = 2 := by decide +kernel
        exact q_mmax hn hcap (x_wd_in hl.2.2.2) ⟨by omega, by omega⟩ C hs hd kk
      · simp only [x_lnk, Bool.and_eq_true, Nat.blt_eq, show Nat.blt 2 3 = true from rfl, cond_true] at hl
        have e1 : 8 + (ML 197 + 11) + MO 197 ≤ MO j := Nat.le_of_ble_eq_true hl.2.2.1
        have e2 : MF 197 < MF j := hl.2.1
        have e3 : ML 197 = 4 := by decide +kernel
        exact q_mmaxl hn hcap (x_wd_in hl.2.2.2) ⟨by omega, by omega⟩ C hs hd kk
    · rcases inv24 hs with ⟨-, hq, -⟩ | ⟨-, hq, -⟩ <;> cases hq
    · exact q_arraycopy (x_wd_in hw) ⟨Nat.le_trans h1 hfr, Nat.le_trans h2 hlo⟩ C hs hd kk
  | ireturn =>
    simp only [x_ck, decide_eq_true_eq] at hk
    obtain ⟨rfl, -⟩ := hk
    exact (inv27 hs).elim
  | lreturn =>
    simp only [x_ck, decide_eq_true_eq] at hk
    obtain ⟨rfl, -⟩ := hk
    exact (inv27 hs).elim
  | areturn =>
    simp only [x_ck, decide_eq_true_eq] at hk
    obtain ⟨rfl, -⟩ := hk
    exact (inv27 hs).elim
  | return_ =>
    simp only [x_ck, decide_eq_true_eq] at hk
    obtain ⟨rfl, -⟩ := hk
    exact (inv27 hs).elim
  | _ => exact absurd hk (by simp [x_ck])
