/-! the law: the reference's calls -/
theorem MR_e {a : aS} {w : ax_W} {G : Prop} (h : MR a w) (k : ∀ (m_tape : Nat → Int32) (m_taped : Int32) (m_rules : Int32) (m_sign : Nat → Int32) (m_length : Nat → Int32) (m_clause : Nat → Int32) (m_clauses : Nat → Int32) (m_read : Nat → Int32) (m_next : Int32) (m_wrong : Int32) (m_number : Int32) (m_text : Int32) (m_made : Int32) (m_deep : Int32) (m_lines : Int32) (m_open : Nat → Int32) (m_opened : Int32) (m_stack : Nat → Int64) (m_top : Int32) (m_word : Nat → Int64) (m_said : Nat → Int32) (m_force : Int32) (m_x : Int32) (m_wasSaid : Nat → Int32) (m_undone : Int32) (m_row : Nat → Int32) (m_rowThen : Nat → Int32) (m_far : Nat → Int32) (m_queue : Nat → Int32) (m_reached : Int32) (m_stepWho : Int32) (m_stepBacks : Int32) (m_kept : Nat → Int32) (m_hasBy : Nat → Int32) (m_standsThen : Nat → Int32) (m_isFit : Nat → Int32) (m_firstThen : Nat → Int32) (m_drawX : Int64) (m_images : Nat → Int32) (m_imageForce : Nat → Int32) (m_imageX : Nat → Int32) (m_isMade : Nat → Int32), w = w_M m_tape m_taped m_rules m_sign m_length m_clause m_clauses m_read m_next m_wrong m_number m_text m_made m_deep m_lines m_open m_opened m_stack m_top m_word m_said m_force m_x m_wasSaid m_undone m_row m_rowThen m_far m_queue m_reached m_stepWho m_stepBacks m_kept m_hasBy m_standsThen m_isFit m_firstThen m_drawX m_images m_imageForce m_imageX m_isMade → MRel a m_tape m_taped m_rules m_sign m_clause m_clauses m_said m_force m_x m_wasSaid m_undone m_images m_imageForce m_imageX m_isMade → G) : G := by
  obtain ⟨m_tape, m_taped, m_rules, m_sign, m_length, m_clause, m_clauses, m_read, m_next, m_wrong, m_number, m_text, m_made, m_deep, m_lines, m_open, m_opened, m_stack, m_top, m_word, m_said, m_force, m_x, m_wasSaid, m_undone, m_row, m_rowThen, m_far, m_queue, m_reached, m_stepWho, m_stepBacks, m_kept, m_hasBy, m_standsThen, m_isFit, m_firstThen, m_drawX, m_images, m_imageForce, m_imageX, m_isMade, h1, h2⟩ := h
  exact k m_tape m_taped m_rules m_sign m_length m_clause m_clauses m_read m_next m_wrong m_number m_text m_made m_deep m_lines m_open m_opened m_stack m_top m_word m_said m_force m_x m_wasSaid m_undone m_row m_rowThen m_far m_queue m_reached m_stepWho m_stepBacks m_kept m_hasBy m_standsThen m_isFit m_firstThen m_drawX m_images m_imageForce m_imageX m_isMade h1 h2
theorem MR_i {a : aS} {w : ax_W} {m_tape : Nat → Int32} {m_taped : Int32} {m_rules : Int32} {m_sign : Nat → Int32} {m_length : Nat → Int32} {m_clause : Nat → Int32} {m_clauses : Nat → Int32} {m_read : Nat → Int32} {m_next : Int32} {m_wrong : Int32} {m_number : Int32} {m_text : Int32} {m_made : Int32} {m_deep : Int32} {m_lines : Int32} {m_open : Nat → Int32} {m_opened : Int32} {m_stack : Nat → Int64} {m_top : Int32} {m_word : Nat → Int64} {m_said : Nat → Int32} {m_force : Int32} {m_x : Int32} {m_wasSaid : Nat → Int32} {m_undone : Int32} {m_row : Nat → Int32} {m_rowThen : Nat → Int32} {m_far : Nat → Int32} {m_queue : Nat → Int32} {m_reached : Int32} {m_stepWho : Int32} {m_stepBacks : Int32} {m_kept : Nat → Int32} {m_hasBy : Nat → Int32} {m_standsThen : Nat → Int32} {m_isFit : Nat → Int32} {m_firstThen : Nat → Int32} {m_drawX : Int64} {m_images : Nat → Int32} {m_imageForce : Nat → Int32} {m_imageX : Nat → Int32} {m_isMade : Nat → Int32} (h1 : w = w_M m_tape m_taped m_rules m_sign m_length m_clause m_clauses m_read m_next m_wrong m_number m_text m_made m_deep m_lines m_open m_opened m_stack m_top m_word m_said m_force m_x m_wasSaid m_undone m_row m_rowThen m_far m_queue m_reached m_stepWho m_stepBacks m_kept m_hasBy m_standsThen m_isFit m_firstThen m_drawX m_images m_imageForce m_imageX m_isMade) (h2 : MRel a m_tape m_taped m_rules m_sign m_clause m_clauses m_said m_force m_x m_wasSaid m_undone m_images m_imageForce m_imageX m_isMade) : MR a w := ⟨m_tape, m_taped, m_rules, m_sign, m_length, m_clause, m_clauses, m_read, m_next, m_wrong, m_number, m_text, m_made, m_deep, m_lines, m_open, m_opened, m_stack, m_top, m_word, m_said, m_force, m_x, m_wasSaid, m_undone, m_row, m_rowThen, m_far, m_queue, m_reached, m_stepWho, m_stepBacks, m_kept, m_hasBy, m_standsThen, m_isFit, m_firstThen, m_drawX, m_images, m_imageForce, m_imageX, m_isMade, h1, h2⟩
section LWM
variable {X : Nat × (Nat → Int32)} {a : aS} {w : ax_W}
theorem mc_feed {p0 p1 p2 p3 p4 : Int32} (hA : AOk a) (hM : MR a w) : EM (ax_GG X) m_X12_feed [.ref 0, .int p0, .int p1, .int p2, .int p3, .int p4] w (fun out => ∃ r w', out = (some (.int r), w', [], 0) ∧ r = (F_feed a p0 p1 p2 p3 p4).1 ∧ MR (F_feed a p0 p1 p2 p3 p4).2 w') := by
  refine MR_e hM (fun m_tape m_taped m_rules m_sign m_length m_clause m_clauses m_read m_next m_wrong m_number m_text m_made m_deep m_lines m_open m_opened m_stack m_top m_word m_said m_force m_x m_wasSaid m_undone m_row m_rowThen m_far m_queue m_reached m_stepWho m_stepBacks m_kept m_hasBy m_standsThen m_isFit m_firstThen m_drawX m_images m_imageForce m_imageX m_isMade hw_ hR => ?_)
  subst hw_
  refine EM.mono (em_X12_feed (N := 6000) (Q := (fun r m_tape' m_taped' => r = (F_feed a p0 p1 p2 p3 p4).1 ∧ MRel (F_feed a p0 p1 p2 p3 p4).2 m_tape' m_taped' m_rules m_sign m_clause m_clauses m_said m_force m_x m_wasSaid m_undone m_images m_imageForce m_imageX m_isMade)) (rm_feed (by omega) hA hR (fun _ _ h => ⟨rfl, h⟩))) (fun out ho => ?_)
  obtain ⟨r, m_tape', m_taped', rfl, h1, h2⟩ := ho
  exact ⟨r, _, rfl, h1, MR_i rfl (h2)⟩
theorem mc_end {p0 : Int32} (hA : AOk a) (hM : MR a w) : EM (ax_GG X) m_X12_end [.ref 0, .int p0] w (fun out => ∃ r w', out = (some (.int r), w', [], 0) ∧ r = (F_end a p0).1 ∧ MR (F_end a p0).2 w') := by
  refine MR_e hM (fun m_tape m_taped m_rules m_sign m_length m_clause m_clauses m_read m_next m_wrong m_number m_text m_made m_deep m_lines m_open m_opened m_stack m_top m_word m_said m_force m_x m_wasSaid m_undone m_row m_rowThen m_far m_queue m_reached m_stepWho m_stepBacks m_kept m_hasBy m_standsThen m_isFit m_firstThen m_drawX m_images m_imageForce m_imageX m_isMade hw_ hR => ?_)
  subst hw_
  refine EM.mono (em_X12_end (N := 6000) (Q := (fun r m_taped' => r = (F_end a p0).1 ∧ MRel (F_end a p0).2 m_tape m_taped' m_rules m_sign m_clause m_clauses m_said m_force m_x m_wasSaid m_undone m_images m_imageForce m_imageX m_isMade)) (rm_end hA hR (fun _ h => ⟨rfl, h⟩))) (fun out ho => ?_)
  obtain ⟨r, m_taped', rfl, h1, h2⟩ := ho
  exact ⟨r, _, rfl, h1, MR_i rfl (h2)⟩
theorem mc_lane  (hA : AOk a) (hM : MR a w) : EM (ax_GG X) m_X12_lane [.ref 0] w (fun out => ∃ r w', out = (some (.int r), w', [], 0) ∧ r = (F_lane a ).1 ∧ MR (F_lane a ).2 w') := by
  refine MR_e hM (fun m_tape m_taped m_rules m_sign m_length m_clause m_clauses m_read m_next m_wrong m_number m_text m_made m_deep m_lines m_open m_opened m_stack m_top m_word m_said m_force m_x m_wasSaid m_undone m_row m_rowThen m_far m_queue m_reached m_stepWho m_stepBacks m_kept m_hasBy m_standsThen m_isFit m_firstThen m_drawX m_images m_imageForce m_imageX m_isMade hw_ hR => ?_)
  subst hw_
  refine EM.mono (em_X12_lane (N := 6000) (Q := (fun r m_taped' m_sign' m_length' m_clause' m_clauses' m_read' m_next' m_wrong' m_number' m_text' m_made' m_deep' m_lines' m_open' m_opened' m_said' m_undone' => r = (F_lane a ).1 ∧ MRel (F_lane a ).2 m_tape m_taped' m_rules m_sign' m_clause' m_clauses' m_said' m_force m_x m_wasSaid m_undone' m_images m_imageForce m_imageX m_isMade)) (rm_lane (by omega) hA hR (fun _ _ _ _ _ _ _ _ _ _ _ _ _ _ h => ⟨rfl, h⟩))) (fun out ho => ?_)
  obtain ⟨r, m_taped', m_sign', m_length', m_clause', m_clauses', m_read', m_next', m_wrong', m_number', m_text', m_made', m_deep', m_lines', m_open', m_opened', m_said', m_undone', rfl, h1, h2⟩ := ho
  exact ⟨r, _, rfl, h1, MR_i rfl (h2)⟩
theorem mc_rule  (hA : AOk a) (hM : MR a w) : EM (ax_GG X) m_X12_rule [.ref 0] w (fun out => ∃ r w', out = (some (.int r), w', [], 0) ∧ r = (F_rule a ).1 ∧ MR (F_rule a ).2 w') := by
  refine MR_e hM (fun m_tape m_taped m_rules m_sign m_length m_clause m_clauses m_read m_next m_wrong m_number m_text m_made m_deep m_lines m_open m_opened m_stack m_top m_word m_said m_force m_x m_wasSaid m_undone m_row m_rowThen m_far m_queue m_reached m_stepWho m_stepBacks m_kept m_hasBy m_standsThen m_isFit m_firstThen m_drawX m_images m_imageForce m_imageX m_isMade hw_ hR => ?_)
  subst hw_
  refine EM.mono (em_X12_rule (N := 6000) (Q := (fun r m_taped' m_rules' m_sign' m_length' m_clause' m_clauses' m_read' m_next' m_wrong' m_number' m_text' m_made' m_deep' m_lines' m_open' m_opened' => r = (F_rule a ).1 ∧ MRel (F_rule a ).2 m_tape m_taped' m_rules' m_sign' m_clause' m_clauses' m_said m_force m_x m_wasSaid m_undone m_images m_imageForce m_imageX m_isMade)) (rm_rule (by omega) hA hR (fun _ _ _ _ _ _ _ _ _ _ _ _ _ _ _ _ h => ⟨rfl, h⟩))) (fun out ho => ?_)
  obtain ⟨r, m_taped', m_rules', m_sign', m_length', m_clause', m_clauses', m_read', m_next', m_wrong', m_number', m_text', m_made', m_deep', m_lines', m_open', m_opened', rfl, h1, h2⟩ := ho
  exact ⟨r, _, rfl, h1, MR_i rfl (h2)⟩
theorem mc_force {p0 : Int32} (hA : AOk a) (hM : MR a w) : EM (ax_GG X) m_X12_force [.ref 0, .int p0] w (fun out => ∃ r w', out = (some (.int r), w', [], 0) ∧ r = (F_force a p0).1 ∧ MR (F_force a p0).2 w') := by
  refine MR_e hM (fun m_tape m_taped m_rules m_sign m_length m_clause m_clauses m_read m_next m_wrong m_number m_text m_made m_deep m_lines m_open m_opened m_stack m_top m_word m_said m_force m_x m_wasSaid m_undone m_row m_rowThen m_far m_queue m_reached m_stepWho m_stepBacks m_kept m_hasBy m_standsThen m_isFit m_firstThen m_drawX m_images m_imageForce m_imageX m_isMade hw_ hR => ?_)
  subst hw_
  refine EM.mono (em_X12_force (N := 6000) (Q := (fun r m_force' => r = (F_force a p0).1 ∧ MRel (F_force a p0).2 m_tape m_taped m_rules m_sign m_clause m_clauses m_said m_force' m_x m_wasSaid m_undone m_images m_imageForce m_imageX m_isMade)) (rm_force hA hR (fun _ h => ⟨rfl, h⟩))) (fun out ho => ?_)
  obtain ⟨r, m_force', rfl, h1, h2⟩ := ho
  exact ⟨r, _, rfl, h1, MR_i rfl (h2)⟩
theorem mc_turn  (hA : AOk a) (hM : MR a w) : EM (ax_GG X) m_X12_turn [.ref 0] w (fun out => ∃ r w', out = (some (.int r), w', [], 0) ∧ r = (F_turn a ).1 ∧ MR (F_turn a ).2 w') := by
  refine MR_e hM (fun m_tape m_taped m_rules m_sign m_length m_clause m_clauses m_read m_next m_wrong m_number m_text m_made m_deep m_lines m_open m_opened m_stack m_top m_word m_said m_force m_x m_wasSaid m_undone m_row m_rowThen m_far m_queue m_reached m_stepWho m_stepBacks m_kept m_hasBy m_standsThen m_isFit m_firstThen m_drawX m_images m_imageForce m_imageX m_isMade hw_ hR => ?_)
  subst hw_
  refine EM.mono (em_X12_turn (N := 6000) (Q := (fun r m_stack' m_top' m_word' m_said' m_wasSaid' m_undone' => r = (F_turn a ).1 ∧ MRel (F_turn a ).2 m_tape m_taped m_rules m_sign m_clause m_clauses m_said' m_force m_x m_wasSaid' m_undone' m_images m_imageForce m_imageX m_isMade)) (rm_turn (by omega) hA hR (fun _ _ _ _ _ _ h => ⟨rfl, h⟩))) (fun out ho => ?_)
  obtain ⟨r, m_stack', m_top', m_word', m_said', m_wasSaid', m_undone', rfl, h1, h2⟩ := ho
  exact ⟨r, _, rfl, h1, MR_i rfl (h2)⟩
theorem mc_leap {p0 p1 : Int32} (hA : AOk a) (hM : MR a w) : EM (ax_GG X) m_X12_leap [.ref 0, .int p0, .int p1] w (fun out => ∃ r w', out = (some (.int r), w', [], 0) ∧ r = (F_leap a p0 p1).1 ∧ MR (F_leap a p0 p1).2 w') := by
  refine MR_e hM (fun m_tape m_taped m_rules m_sign m_length m_clause m_clauses m_read m_next m_wrong m_number m_text m_made m_deep m_lines m_open m_opened m_stack m_top m_word m_said m_force m_x m_wasSaid m_undone m_row m_rowThen m_far m_queue m_reached m_stepWho m_stepBacks m_kept m_hasBy m_standsThen m_isFit m_firstThen m_drawX m_images m_imageForce m_imageX m_isMade hw_ hR => ?_)
  subst hw_
  refine EM.mono (em_X12_leap (N := 6000) (Q := (fun r m_said' m_wasSaid' m_undone' => r = (F_leap a p0 p1).1 ∧ MRel (F_leap a p0 p1).2 m_tape m_taped m_rules m_sign m_clause m_clauses m_said' m_force m_x m_wasSaid' m_undone' m_images m_imageForce m_imageX m_isMade)) (rm_leap (by omega) hA hR (fun _ _ _ h => ⟨rfl, h⟩))) (fun out ho => ?_)
  obtain ⟨r, m_said', m_wasSaid', m_undone', rfl, h1, h2⟩ := ho
  exact ⟨r, _, rfl, h1, MR_i rfl (h2)⟩
theorem mc_stoop {p0 p1 : Int32} (hA : AOk a) (hM : MR a w) : EM (ax_GG X) m_X12_stoop [.ref 0, .int p0, .int p1] w (fun out => ∃ r w', out = (some (.int r), w', [], 0) ∧ r = (F_stoop a p0 p1).1 ∧ MR (F_stoop a p0 p1).2 w') := by
  refine MR_e hM (fun m_tape m_taped m_rules m_sign m_length m_clause m_clauses m_read m_next m_wrong m_number m_text m_made m_deep m_lines m_open m_opened m_stack m_top m_word m_said m_force m_x m_wasSaid m_undone m_row m_rowThen m_far m_queue m_reached m_stepWho m_stepBacks m_kept m_hasBy m_standsThen m_isFit m_firstThen m_drawX m_images m_imageForce m_imageX m_isMade hw_ hR => ?_)
  subst hw_
  refine EM.mono (em_X12_stoop (N := 6000) (Q := (fun r m_said' m_wasSaid' m_undone' => r = (F_stoop a p0 p1).1 ∧ MRel (F_stoop a p0 p1).2 m_tape m_taped m_rules m_sign m_clause m_clauses m_said' m_force m_x m_wasSaid' m_undone' m_images m_imageForce m_imageX m_isMade)) (rm_stoop (by omega) hA hR (fun _ _ _ h => ⟨rfl, h⟩))) (fun out ho => ?_)
  obtain ⟨r, m_said', m_wasSaid', m_undone', rfl, h1, h2⟩ := ho
  exact ⟨r, _, rfl, h1, MR_i rfl (h2)⟩
theorem mc_breath {p0 p1 : Int32} (hA : AOk a) (hM : MR a w) : EM (ax_GG X) m_X12_breath [.ref 0, .int p0, .int p1] w (fun out => ∃ r w', out = (some (.int r), w', [], 0) ∧ r = (F_breath a p0 p1).1 ∧ MR (F_breath a p0 p1).2 w') := by
  refine MR_e hM (fun m_tape m_taped m_rules m_sign m_length m_clause m_clauses m_read m_next m_wrong m_number m_text m_made m_deep m_lines m_open m_opened m_stack m_top m_word m_said m_force m_x m_wasSaid m_undone m_row m_rowThen m_far m_queue m_reached m_stepWho m_stepBacks m_kept m_hasBy m_standsThen m_isFit m_firstThen m_drawX m_images m_imageForce m_imageX m_isMade hw_ hR => ?_)
  subst hw_
  refine EM.mono (em_X12_breath (N := 6000) (Q := (fun r m_said' m_wasSaid' m_undone' => r = (F_breath a p0 p1).1 ∧ MRel (F_breath a p0 p1).2 m_tape m_taped m_rules m_sign m_clause m_clauses m_said' m_force m_x m_wasSaid' m_undone' m_images m_imageForce m_imageX m_isMade)) (rm_breath (by omega) hA hR (fun _ _ _ h => ⟨rfl, h⟩))) (fun out ho => ?_)
  obtain ⟨r, m_said', m_wasSaid', m_undone', rfl, h1, h2⟩ := ho
  exact ⟨r, _, rfl, h1, MR_i rfl (h2)⟩
theorem mc_front {p0 : Int32} (hA : AOk a) (hM : MR a w) : EM (ax_GG X) m_X12_front [.ref 0, .int p0] w (fun out => ∃ r w', out = (some (.int r), w', [], 0) ∧ r = (F_front a p0).1 ∧ MR (F_front a p0).2 w') := by
  refine MR_e hM (fun m_tape m_taped m_rules m_sign m_length m_clause m_clauses m_read m_next m_wrong m_number m_text m_made m_deep m_lines m_open m_opened m_stack m_top m_word m_said m_force m_x m_wasSaid m_undone m_row m_rowThen m_far m_queue m_reached m_stepWho m_stepBacks m_kept m_hasBy m_standsThen m_isFit m_firstThen m_drawX m_images m_imageForce m_imageX m_isMade hw_ hR => ?_)
  subst hw_
  refine EM.mono (em_X12_front (N := 6000) (Q := (fun r m_said' m_wasSaid' m_undone' => r = (F_front a p0).1 ∧ MRel (F_front a p0).2 m_tape m_taped m_rules m_sign m_clause m_clauses m_said' m_force m_x m_wasSaid' m_undone' m_images m_imageForce m_imageX m_isMade)) (rm_front (by omega) hA hR (fun _ _ _ h => ⟨rfl, h⟩))) (fun out ho => ?_)
  obtain ⟨r, m_said', m_wasSaid', m_undone', rfl, h1, h2⟩ := ho
  exact ⟨r, _, rfl, h1, MR_i rfl (h2)⟩
theorem mc_undo  (hA : AOk a) (hM : MR a w) : EM (ax_GG X) m_X12_undo [.ref 0] w (fun out => ∃ r w', out = (some (.int r), w', [], 0) ∧ r = (F_undo a ).1 ∧ MR (F_undo a ).2 w') := by
  refine MR_e hM (fun m_tape m_taped m_rules m_sign m_length m_clause m_clauses m_read m_next m_wrong m_number m_text m_made m_deep m_lines m_open m_opened m_stack m_top m_word m_said m_force m_x m_wasSaid m_undone m_row m_rowThen m_far m_queue m_reached m_stepWho m_stepBacks m_kept m_hasBy m_standsThen m_isFit m_firstThen m_drawX m_images m_imageForce m_imageX m_isMade hw_ hR => ?_)
  subst hw_
  refine EM.mono (em_X12_undo (N := 6000) (Q := (fun r m_said' m_undone' => r = (F_undo a ).1 ∧ MRel (F_undo a ).2 m_tape m_taped m_rules m_sign m_clause m_clauses m_said' m_force m_x m_wasSaid m_undone' m_images m_imageForce m_imageX m_isMade)) (rm_undo (by omega) hA hR (fun _ _ h => ⟨rfl, h⟩))) (fun out ho => ?_)
  obtain ⟨r, m_said', m_undone', rfl, h1, h2⟩ := ho
  exact ⟨r, _, rfl, h1, MR_i rfl (h2)⟩
theorem mc_note {p0 p1 : Int32} (hA : AOk a) (hM : MR a w) : EM (ax_GG X) m_X12_note [.ref 0, .int p0, .int p1] w (fun out => ∃ r w', out = (some (.int r), w', [], 0) ∧ r = (F_note a p0 p1).1 ∧ MR (F_note a p0 p1).2 w') := by
  refine MR_e hM (fun m_tape m_taped m_rules m_sign m_length m_clause m_clauses m_read m_next m_wrong m_number m_text m_made m_deep m_lines m_open m_opened m_stack m_top m_word m_said m_force m_x m_wasSaid m_undone m_row m_rowThen m_far m_queue m_reached m_stepWho m_stepBacks m_kept m_hasBy m_standsThen m_isFit m_firstThen m_drawX m_images m_imageForce m_imageX m_isMade hw_ hR => ?_)
  subst hw_
  refine EM.mono (em_X12_note (N := 6000) (Q := (fun r m_said' => r = (F_note a p0 p1).1 ∧ MRel (F_note a p0 p1).2 m_tape m_taped m_rules m_sign m_clause m_clauses m_said' m_force m_x m_wasSaid m_undone m_images m_imageForce m_imageX m_isMade)) (rm_note hA hR (fun _ h => ⟨rfl, h⟩))) (fun out ho => ?_)
  obtain ⟨r, m_said', rfl, h1, h2⟩ := ho
  exact ⟨r, _, rfl, h1, MR_i rfl (h2)⟩
theorem mc_seed {p0 : Int32} (hA : AOk a) (hM : MR a w) : EM (ax_GG X) m_X12_seed [.ref 0, .int p0] w (fun out => ∃ r w', out = (some (.int r), w', [], 0) ∧ r = (F_seed a p0).1 ∧ MR (F_seed a p0).2 w') := by
  refine MR_e hM (fun m_tape m_taped m_rules m_sign m_length m_clause m_clauses m_read m_next m_wrong m_number m_text m_made m_deep m_lines m_open m_opened m_stack m_top m_word m_said m_force m_x m_wasSaid m_undone m_row m_rowThen m_far m_queue m_reached m_stepWho m_stepBacks m_kept m_hasBy m_standsThen m_isFit m_firstThen m_drawX m_images m_imageForce m_imageX m_isMade hw_ hR => ?_)
  subst hw_
  refine EM.mono (em_X12_seed (N := 6000) (Q := (fun r m_x' => r = (F_seed a p0).1 ∧ MRel (F_seed a p0).2 m_tape m_taped m_rules m_sign m_clause m_clauses m_said m_force m_x' m_wasSaid m_undone m_images m_imageForce m_imageX m_isMade)) (rm_seed hR (fun _ h => ⟨rfl, h⟩))) (fun out ho => ?_)
  obtain ⟨r, m_x', rfl, h1, h2⟩ := ho
  exact ⟨r, _, rfl, h1, MR_i rfl (h2)⟩
theorem mc_image {p0 : Int32} (hA : AOk a) (hM : MR a w) : EM (ax_GG X) m_X12_image [.ref 0, .int p0] w (fun out => ∃ r w', out = (some (.int r), w', [], 0) ∧ r = (F_image a p0).1 ∧ MR (F_image a p0).2 w') := by
  refine MR_e hM (fun m_tape m_taped m_rules m_sign m_length m_clause m_clauses m_read m_next m_wrong m_number m_text m_made m_deep m_lines m_open m_opened m_stack m_top m_word m_said m_force m_x m_wasSaid m_undone m_row m_rowThen m_far m_queue m_reached m_stepWho m_stepBacks m_kept m_hasBy m_standsThen m_isFit m_firstThen m_drawX m_images m_imageForce m_imageX m_isMade hw_ hR => ?_)
  subst hw_
  refine EM.mono (em_X12_image (N := 6000) (Q := (fun r m_images' m_imageForce' m_imageX' m_isMade' => r = (F_image a p0).1 ∧ MRel (F_image a p0).2 m_tape m_taped m_rules m_sign m_clause m_clauses m_said m_force m_x m_wasSaid m_undone m_images' m_imageForce' m_imageX' m_isMade')) (rm_image (by omega) hR (fun _ _ _ _ h => ⟨rfl, h⟩))) (fun out ho => ?_)
  obtain ⟨r, m_images', m_imageForce', m_imageX', m_isMade', rfl, h1, h2⟩ := ho
  exact ⟨r, _, rfl, h1, MR_i rfl (h2)⟩
theorem mc_back {p0 : Int32} (hA : AOk a) (hM : MR a w) : EM (ax_GG X) m_X12_back [.ref 0, .int p0] w (fun out => ∃ r w', out = (some (.int r), w', [], 0) ∧ r = (F_back a p0).1 ∧ MR (F_back a p0).2 w') := by
  refine MR_e hM (fun m_tape m_taped m_rules m_sign m_length m_clause m_clauses m_read m_next m_wrong m_number m_text m_made m_deep m_lines m_open m_opened m_stack m_top m_word m_said m_force m_x m_wasSaid m_undone m_row m_rowThen m_far m_queue m_reached m_stepWho m_stepBacks m_kept m_hasBy m_standsThen m_isFit m_firstThen m_drawX m_images m_imageForce m_imageX m_isMade hw_ hR => ?_)
  subst hw_
  refine EM.mono (em_X12_back (N := 6000) (Q := (fun r m_said' m_force' m_x' m_undone' => r = (F_back a p0).1 ∧ MRel (F_back a p0).2 m_tape m_taped m_rules m_sign m_clause m_clauses m_said' m_force' m_x' m_wasSaid m_undone' m_images m_imageForce m_imageX m_isMade)) (rm_back (by omega) hA hR (fun _ _ _ _ h => ⟨rfl, h⟩))) (fun out ho => ?_)
  obtain ⟨r, m_said', m_force', m_x', m_undone', rfl, h1, h2⟩ := ho
  exact ⟨r, _, rfl, h1, MR_i rfl (h2)⟩
theorem mc_child {p0 p1 : Int32} (hA : AOk a) (hM : MR a w) : EM (ax_GG X) m_X12_child [.ref 0, .int p0, .int p1] w (fun out => ∃ r w', out = (some (.int r), w', [], 0) ∧ r = (F_child a p0 p1).1 ∧ MR (F_child a p0 p1).2 w') := by
  refine MR_e hM (fun m_tape m_taped m_rules m_sign m_length m_clause m_clauses m_read m_next m_wrong m_number m_text m_made m_deep m_lines m_open m_opened m_stack m_top m_word m_said m_force m_x m_wasSaid m_undone m_row m_rowThen m_far m_queue m_reached m_stepWho m_stepBacks m_kept m_hasBy m_standsThen m_isFit m_firstThen m_drawX m_images m_imageForce m_imageX m_isMade hw_ hR => ?_)
  subst hw_
  refine EM.mono (em_X12_child (N := 6000) (Q := (fun r  => r = (F_child a p0 p1).1 ∧ MRel (F_child a p0 p1).2 m_tape m_taped m_rules m_sign m_clause m_clauses m_said m_force m_x m_wasSaid m_undone m_images m_imageForce m_imageX m_isMade)) (rm_child (by omega) hA hR.2.2.2.1 ⟨rfl, hR⟩)) (fun out ho => ?_)
  obtain ⟨r, rfl, h1, h2⟩ := ho
  exact ⟨r, _, rfl, h1, MR_i rfl (h2)⟩
theorem mc_order  (hA : AOk a) (hM : MR a w) : EM (ax_GG X) m_X12_order [.ref 0] w (fun out => ∃ r w', out = (some (.int r), w', [], 0) ∧ r = (F_order a ).1 ∧ MR (F_order a ).2 w') := by
  refine MR_e hM (fun m_tape m_taped m_rules m_sign m_length m_clause m_clauses m_read m_next m_wrong m_number m_text m_made m_deep m_lines m_open m_opened m_stack m_top m_word m_said m_force m_x m_wasSaid m_undone m_row m_rowThen m_far m_queue m_reached m_stepWho m_stepBacks m_kept m_hasBy m_standsThen m_isFit m_firstThen m_drawX m_images m_imageForce m_imageX m_isMade hw_ hR => ?_)
  subst hw_
  refine EM.mono (em_X12_order (N := 6000) (Q := (fun r  => r = (F_order a ).1 ∧ MRel (F_order a ).2 m_tape m_taped m_rules m_sign m_clause m_clauses m_said m_force m_x m_wasSaid m_undone m_images m_imageForce m_imageX m_isMade)) (rm_order (by omega) hA hR.2.2.2.1 ⟨rfl, hR⟩)) (fun out ho => ?_)
  obtain ⟨r, rfl, h1, h2⟩ := ho
  exact ⟨r, _, rfl, h1, MR_i rfl (h2)⟩
theorem mc_count {p0 : Int32} (hA : AOk a) (hM : MR a w) : EM (ax_GG X) m_X12_count [.ref 0, .int p0] w (fun out => ∃ r w', out = (some (.int r), w', [], 0) ∧ r = (F_count a p0).1 ∧ MR (F_count a p0).2 w') := by
  refine MR_e hM (fun m_tape m_taped m_rules m_sign m_length m_clause m_clauses m_read m_next m_wrong m_number m_text m_made m_deep m_lines m_open m_opened m_stack m_top m_word m_said m_force m_x m_wasSaid m_undone m_row m_rowThen m_far m_queue m_reached m_stepWho m_stepBacks m_kept m_hasBy m_standsThen m_isFit m_firstThen m_drawX m_images m_imageForce m_imageX m_isMade hw_ hR => ?_)
  subst hw_
  refine EM.mono (em_X12_count (N := 6000) (Q := (fun r  => r = (F_count a p0).1 ∧ MRel (F_count a p0).2 m_tape m_taped m_rules m_sign m_clause m_clauses m_said m_force m_x m_wasSaid m_undone m_images m_imageForce m_imageX m_isMade)) (rm_count (by omega) hA hR ⟨rfl, hR⟩)) (fun out ho => ?_)
  obtain ⟨r, rfl, h1, h2⟩ := ho
  exact ⟨r, _, rfl, h1, MR_i rfl (h2)⟩
theorem mc_pence {p0 p1 : Int32} (hA : AOk a) (hM : MR a w) : EM (ax_GG X) m_X12_pence [.ref 0, .int p0, .int p1] w (fun out => ∃ r w', out = (some (.int r), w', [], 0) ∧ A_pence a p0 p1 r ∧ MR a w') := by
  refine MR_e hM (fun m_tape m_taped m_rules m_sign m_length m_clause m_clauses m_read m_next m_wrong m_number m_text m_made m_deep m_lines m_open m_opened m_stack m_top m_word m_said m_force m_x m_wasSaid m_undone m_row m_rowThen m_far m_queue m_reached m_stepWho m_stepBacks m_kept m_hasBy m_standsThen m_isFit m_firstThen m_drawX m_images m_imageForce m_imageX m_isMade hw_ hR => ?_)
  subst hw_
  refine EM.mono (em_X12_pence (N := 6000) (Q := (fun r  => A_pence a p0 p1 r ∧ MRel a m_tape m_taped m_rules m_sign m_clause m_clauses m_said m_force m_x m_wasSaid m_undone m_images m_imageForce m_imageX m_isMade)) (rm_pence (by omega) hA hR.2.2.2.1 (fun r hr  => ⟨hr, hR⟩))) (fun out ho => ?_)
  obtain ⟨r, rfl, h1, h2⟩ := ho
  exact ⟨r, _, rfl, h1, MR_i rfl (h2)⟩
theorem mc_sources  (hA : AOk a) (hM : MR a w) : EM (ax_GG X) m_X12_sources [.ref 0] w (fun out => ∃ r w', out = (some (.int r), w', [], 0) ∧ A_sources a  r ∧ MR a w') := by
  refine MR_e hM (fun m_tape m_taped m_rules m_sign m_length m_clause m_clauses m_read m_next m_wrong m_number m_text m_made m_deep m_lines m_open m_opened m_stack m_top m_word m_said m_force m_x m_wasSaid m_undone m_row m_rowThen m_far m_queue m_reached m_stepWho m_stepBacks m_kept m_hasBy m_standsThen m_isFit m_firstThen m_drawX m_images m_imageForce m_imageX m_isMade hw_ hR => ?_)
  subst hw_
  refine EM.mono (em_X12_sources (N := 6000) (Q := (fun r m_row' => A_sources a  r ∧ MRel a m_tape m_taped m_rules m_sign m_clause m_clauses m_said m_force m_x m_wasSaid m_undone m_images m_imageForce m_imageX m_isMade)) (rm_sources (by omega) hA hR.2.2.2.1 (fun r hr _ => ⟨hr, hR⟩))) (fun out ho => ?_)
  obtain ⟨r, m_row', rfl, h1, h2⟩ := ho
  exact ⟨r, _, rfl, h1, MR_i rfl (h2)⟩
theorem mc_ahead {p0 p1 p2 : Int32} (hA : AOk a) (hM : MR a w) : EM (ax_GG X) m_X12_ahead [.ref 0, .int p0, .int p1, .int p2] w (fun out => ∃ r w', out = (some (.int r), w', [], 0) ∧ A_ahead a p0 p1 p2 r ∧ MR a w') := by
  refine MR_e hM (fun m_tape m_taped m_rules m_sign m_length m_clause m_clauses m_read m_next m_wrong m_number m_text m_made m_deep m_lines m_open m_opened m_stack m_top m_word m_said m_force m_x m_wasSaid m_undone m_row m_rowThen m_far m_queue m_reached m_stepWho m_stepBacks m_kept m_hasBy m_standsThen m_isFit m_firstThen m_drawX m_images m_imageForce m_imageX m_isMade hw_ hR => ?_)
  subst hw_
  refine EM.mono (em_X12_ahead (N := 6000) (Q := (fun r m_stack' m_top' m_word' m_said' m_kept' => A_ahead a p0 p1 p2 r ∧ MRel a m_tape m_taped m_rules m_sign m_clause m_clauses m_said' m_force m_x m_wasSaid m_undone m_images m_imageForce m_imageX m_isMade)) (rm_ahead (by omega) hA hR.2.2.2.1 hR.2.2.1 hR.2.2.2.2.1 (fun r hr _ _ _ _ => ⟨hr, hR⟩))) (fun out ho => ?_)
  obtain ⟨r, m_stack', m_top', m_word', m_said', m_kept', rfl, h1, h2⟩ := ho
  exact ⟨r, _, rfl, h1, MR_i rfl (h2)⟩
theorem mc_leads {p0 : Int32} (hA : AOk a) (hM : MR a w) : EM (ax_GG X) m_X12_leads [.ref 0, .int p0] w (fun out => ∃ r w', out = (some (.int r), w', [], 0) ∧ A_leads a p0 r ∧ MR a w') := by
  refine MR_e hM (fun m_tape m_taped m_rules m_sign m_length m_clause m_clauses m_read m_next m_wrong m_number m_text m_made m_deep m_lines m_open m_opened m_stack m_top m_word m_said m_force m_x m_wasSaid m_undone m_row m_rowThen m_far m_queue m_reached m_stepWho m_stepBacks m_kept m_hasBy m_standsThen m_isFit m_firstThen m_drawX m_images m_imageForce m_imageX m_isMade hw_ hR => ?_)
  subst hw_
  refine EM.mono (em_X12_leads (N := 6000) (Q := (fun r m_stack' m_top' m_word' m_said' m_kept' => A_leads a p0 r ∧ MRel a m_tape m_taped m_rules m_sign m_clause m_clauses m_said' m_force m_x m_wasSaid m_undone m_images m_imageForce m_imageX m_isMade)) (rm_leads (by omega) hA hR.2.2.2.1 hR.2.2.1 hR.2.2.2.2.1 (fun r hr _ _ _ _ => ⟨hr, hR⟩))) (fun out ho => ?_)
  obtain ⟨r, m_stack', m_top', m_word', m_said', m_kept', rfl, h1, h2⟩ := ho
  exact ⟨r, _, rfl, h1, MR_i rfl (h2)⟩
theorem mc_stuck  (hA : AOk a) (hM : MR a w) : EM (ax_GG X) m_X12_stuck [.ref 0] w (fun out => ∃ r w', out = (some (.int r), w', [], 0) ∧ A_stuck a  r ∧ MR a w') := by
  refine MR_e hM (fun m_tape m_taped m_rules m_sign m_length m_clause m_clauses m_read m_next m_wrong m_number m_text m_made m_deep m_lines m_open m_opened m_stack m_top m_word m_said m_force m_x m_wasSaid m_undone m_row m_rowThen m_far m_queue m_reached m_stepWho m_stepBacks m_kept m_hasBy m_standsThen m_isFit m_firstThen m_drawX m_images m_imageForce m_imageX m_isMade hw_ hR => ?_)
  subst hw_
  refine EM.mono (em_X12_stuck (N := 6000) (Q := (fun r m_stack' m_top' m_word' m_said' m_kept' => A_stuck a  r ∧ MRel a m_tape m_taped m_rules m_sign m_clause m_clauses m_said' m_force m_x m_wasSaid m_undone m_images m_imageForce m_imageX m_isMade)) (rm_stuck (by omega) hA hR.2.2.2.1 hR.2.2.1 hR.2.2.2.2.1 (fun r hr _ _ _ _ => ⟨hr, hR⟩))) (fun out ho => ?_)
  obtain ⟨r, m_stack', m_top', m_word', m_said', m_kept', rfl, h1, h2⟩ := ho
  exact ⟨r, _, rfl, h1, MR_i rfl (h2)⟩
theorem mc_given {p0 p1 : Int32} (hA : AOk a) (hM : MR a w) : EM (ax_GG X) m_X12_given [.ref 0, .int p0, .int p1] w (fun out => ∃ r w', out = (some (.int r), w', [], 0) ∧ A_given a p0 p1 r ∧ MR a w') := by
  refine MR_e hM (fun m_tape m_taped m_rules m_sign m_length m_clause m_clauses m_read m_next m_wrong m_number m_text m_made m_deep m_lines m_open m_opened m_stack m_top m_word m_said m_force m_x m_wasSaid m_undone m_row m_rowThen m_far m_queue m_reached m_stepWho m_stepBacks m_kept m_hasBy m_standsThen m_isFit m_firstThen m_drawX m_images m_imageForce m_imageX m_isMade hw_ hR => ?_)
  subst hw_
  refine EM.mono (em_X12_given (N := 6000) (Q := (fun r m_stack' m_top' m_word' m_said' m_kept' => A_given a p0 p1 r ∧ MRel a m_tape m_taped m_rules m_sign m_clause m_clauses m_said' m_force m_x m_wasSaid m_undone m_images m_imageForce m_imageX m_isMade)) (rm_given (by omega) hA hR.2.2.2.1 hR.2.2.1 hR.2.2.2.2.1 (fun r hr _ _ _ _ => ⟨hr, hR⟩))) (fun out ho => ?_)
  obtain ⟨r, m_stack', m_top', m_word', m_said', m_kept', rfl, h1, h2⟩ := ho
  exact ⟨r, _, rfl, h1, MR_i rfl (h2)⟩
theorem mc_rests {p0 p1 p2 p3 : Int32} (hA : AOk a) (hM : MR a w) : EM (ax_GG X) m_X12_rests [.ref 0, .int p0, .int p1, .int p2, .int p3] w (fun out => ∃ r w', out = (some (.int r), w', [], 0) ∧ A_rests a p0 p1 p2 p3 r ∧ MR a w') := by
  refine MR_e hM (fun m_tape m_taped m_rules m_sign m_length m_clause m_clauses m_read m_next m_wrong m_number m_text m_made m_deep m_lines m_open m_opened m_stack m_top m_word m_said m_force m_x m_wasSaid m_undone m_row m_rowThen m_far m_queue m_reached m_stepWho m_stepBacks m_kept m_hasBy m_standsThen m_isFit m_firstThen m_drawX m_images m_imageForce m_imageX m_isMade hw_ hR => ?_)
  subst hw_
  refine EM.mono (em_X12_rests (N := 6000) (Q := (fun r m_stack' m_top' m_word' m_said' m_kept' m_hasBy' => A_rests a p0 p1 p2 p3 r ∧ MRel a m_tape m_taped m_rules m_sign m_clause m_clauses m_said' m_force m_x m_wasSaid m_undone m_images m_imageForce m_imageX m_isMade)) (rm_rests (by omega) hA hR.2.2.2.1 hR.2.2.1 hR.2.2.2.2.1 (fun r hr _ _ _ _ _ => ⟨hr, hR⟩))) (fun out ho => ?_)
  obtain ⟨r, m_stack', m_top', m_word', m_said', m_kept', m_hasBy', rfl, h1, h2⟩ := ho
  exact ⟨r, _, rfl, h1, MR_i rfl (h2)⟩
theorem mc_alike {p0 : Int32} (hA : AOk a) (hM : MR a w) : EM (ax_GG X) m_X12_alike [.ref 0, .int p0] w (fun out => ∃ r w', out = (some (.int r), w', [], 0) ∧ A_alike a p0 r ∧ MR a w') := by
  refine MR_e hM (fun m_tape m_taped m_rules m_sign m_length m_clause m_clauses m_read m_next m_wrong m_number m_text m_made m_deep m_lines m_open m_opened m_stack m_top m_word m_said m_force m_x m_wasSaid m_undone m_row m_rowThen m_far m_queue m_reached m_stepWho m_stepBacks m_kept m_hasBy m_standsThen m_isFit m_firstThen m_drawX m_images m_imageForce m_imageX m_isMade hw_ hR => ?_)
  subst hw_
  refine EM.mono (em_X12_alike (N := 6000) (Q := (fun r m_stack' m_top' m_word' m_said' m_kept' m_standsThen' => A_alike a p0 r ∧ MRel a m_tape m_taped m_rules m_sign m_clause m_clauses m_said' m_force m_x m_wasSaid m_undone m_images m_imageForce m_imageX m_isMade)) (rm_alike (by omega) hA hR.2.2.2.1 hR.2.2.1 hR.2.2.2.2.1 (fun r hr _ _ _ _ _ => ⟨hr, hR⟩))) (fun out ho => ?_)
  obtain ⟨r, m_stack', m_top', m_word', m_said', m_kept', m_standsThen', rfl, h1, h2⟩ := ho
  exact ⟨r, _, rfl, h1, MR_i rfl (h2)⟩
theorem mc_leapsOf {p0 : Int32} (hA : AOk a) (hM : MR a w) : EM (ax_GG X) m_X12_leapsOf [.ref 0, .int p0] w (fun out => ∃ r w', out = (some (.int r), w', [], 0) ∧ A_leapsOf a p0 r ∧ MR a w') := by
  refine MR_e hM (fun m_tape m_taped m_rules m_sign m_length m_clause m_clauses m_read m_next m_wrong m_number m_text m_made m_deep m_lines m_open m_opened m_stack m_top m_word m_said m_force m_x m_wasSaid m_undone m_row m_rowThen m_far m_queue m_reached m_stepWho m_stepBacks m_kept m_hasBy m_standsThen m_isFit m_firstThen m_drawX m_images m_imageForce m_imageX m_isMade hw_ hR => ?_)
  subst hw_
  refine EM.mono (em_X12_leapsOf (N := 6000) (Q := (fun r m_stack' m_top' m_word' m_said' m_kept' m_firstThen' => A_leapsOf a p0 r ∧ MRel a m_tape m_taped m_rules m_sign m_clause m_clauses m_said' m_force m_x m_wasSaid m_undone m_images m_imageForce m_imageX m_isMade)) (rm_leapsOf (by omega) hA hR.2.2.2.1 hR.2.2.1 hR.2.2.2.2.1 (fun r hr _ _ _ _ _ => ⟨hr, hR⟩))) (fun out ho => ?_)
  obtain ⟨r, m_stack', m_top', m_word', m_said', m_kept', m_firstThen', rfl, h1, h2⟩ := ho
  exact ⟨r, _, rfl, h1, MR_i rfl (h2)⟩
theorem mc_backsOf {p0 : Int32} (hA : AOk a) (hM : MR a w) : EM (ax_GG X) m_X12_backsOf [.ref 0, .int p0] w (fun out => ∃ r w', out = (some (.int r), w', [], 0) ∧ A_backsOf a p0 r ∧ MR a w') := by
  refine MR_e hM (fun m_tape m_taped m_rules m_sign m_length m_clause m_clauses m_read m_next m_wrong m_number m_text m_made m_deep m_lines m_open m_opened m_stack m_top m_word m_said m_force m_x m_wasSaid m_undone m_row m_rowThen m_far m_queue m_reached m_stepWho m_stepBacks m_kept m_hasBy m_standsThen m_isFit m_firstThen m_drawX m_images m_imageForce m_imageX m_isMade hw_ hR => ?_)
  subst hw_
  refine EM.mono (em_X12_backsOf (N := 6000) (Q := (fun r m_stack' m_top' m_word' m_said' m_kept' m_firstThen' => A_backsOf a p0 r ∧ MRel a m_tape m_taped m_rules m_sign m_clause m_clauses m_said' m_force m_x m_wasSaid m_undone m_images m_imageForce m_imageX m_isMade)) (rm_backsOf (by omega) hA hR.2.2.2.1 hR.2.2.1 hR.2.2.2.2.1 (fun r hr _ _ _ _ _ => ⟨hr, hR⟩))) (fun out ho => ?_)
  obtain ⟨r, m_stack', m_top', m_word', m_said', m_kept', m_firstThen', rfl, h1, h2⟩ := ho
  exact ⟨r, _, rfl, h1, MR_i rfl (h2)⟩
theorem mc_ruled {p0 : Int32} (hA : AOk a) (hM : MR a w) : EM (ax_GG X) m_X12_ruled [.ref 0, .int p0] w (fun out => ∃ r w', out = (some (.int r), w', [], 0) ∧ A_ruled a p0 r ∧ MR a w') := by
  refine MR_e hM (fun m_tape m_taped m_rules m_sign m_length m_clause m_clauses m_read m_next m_wrong m_number m_text m_made m_deep m_lines m_open m_opened m_stack m_top m_word m_said m_force m_x m_wasSaid m_undone m_row m_rowThen m_far m_queue m_reached m_stepWho m_stepBacks m_kept m_hasBy m_standsThen m_isFit m_firstThen m_drawX m_images m_imageForce m_imageX m_isMade hw_ hR => ?_)
  subst hw_
  refine EM.mono (em_X12_ruled (N := 6000) (Q := (fun r m_stack' m_top' m_word' m_said' m_force' m_kept' m_isFit' m_firstThen' => A_ruled a p0 r ∧ MRel a m_tape m_taped m_rules m_sign m_clause m_clauses m_said' m_force' m_x m_wasSaid m_undone m_images m_imageForce m_imageX m_isMade)) (rm_ruled (by omega) hA hR.2.2.2.1 hR.2.2.1 hR.2.1 (fun r hr _ _ _ _ _ _ => ⟨hr, hR⟩))) (fun out ho => ?_)
  obtain ⟨r, m_stack', m_top', m_word', m_said', m_force', m_kept', m_isFit', m_firstThen', rfl, h1, h2⟩ := ho
  exact ⟨r, _, rfl, h1, MR_i rfl (h2)⟩
theorem mc_look {p0 : Int32} (hA : AOk a) (hM : MR a w) : EM (ax_GG X) m_X12_look [.ref 0, .int p0] w (fun out => ∃ r w', out = (some (.int r), w', [], 0) ∧ A_look a p0 r ∧ MR a w') := by
  refine MR_e hM (fun m_tape m_taped m_rules m_sign m_length m_clause m_clauses m_read m_next m_wrong m_number m_text m_made m_deep m_lines m_open m_opened m_stack m_top m_word m_said m_force m_x m_wasSaid m_undone m_row m_rowThen m_far m_queue m_reached m_stepWho m_stepBacks m_kept m_hasBy m_standsThen m_isFit m_firstThen m_drawX m_images m_imageForce m_imageX m_isMade hw_ hR => ?_)
  subst hw_
  refine EM.mono (em_X12_look (N := 6000) (Q := (fun r m_stack' m_top' m_word' m_said' m_force' m_kept' m_isFit' m_firstThen' => A_look a p0 r ∧ MRel a m_tape m_taped m_rules m_sign m_clause m_clauses m_said' m_force' m_x m_wasSaid m_undone m_images m_imageForce m_imageX m_isMade)) (rm_look (by omega) hA hR.2.2.2.1 hR.2.2.1 hR.2.1 (fun r hr _ _ _ _ _ _ => ⟨hr, hR⟩))) (fun out ho => ?_)
  obtain ⟨r, m_stack', m_top', m_word', m_said', m_force', m_kept', m_isFit', m_firstThen', rfl, h1, h2⟩ := ho
  exact ⟨r, _, rfl, h1, MR_i rfl (h2)⟩
theorem mc_stumbles {p0 p1 p2 p3 : Int32} (hA : AOk a) (hM : MR a w) : EM (ax_GG X) m_X12_stumbles [.ref 0, .int p0, .int p1, .int p2, .int p3] w (fun out => ∃ r w', out = (some (.int r), w', [], 0) ∧ A_stumbles a p0 p1 p2 p3 r ∧ MR a w') := by
  refine MR_e hM (fun m_tape m_taped m_rules m_sign m_length m_clause m_clauses m_read m_next m_wrong m_number m_text m_made m_deep m_lines m_open m_opened m_stack m_top m_word m_said m_force m_x m_wasSaid m_undone m_row m_rowThen m_far m_queue m_reached m_stepWho m_stepBacks m_kept m_hasBy m_standsThen m_isFit m_firstThen m_drawX m_images m_imageForce m_imageX m_isMade hw_ hR => ?_)
  subst hw_
  refine EM.mono (em_X12_stumbles (N := 6000) (Q := (fun r m_stack' m_top' m_word' m_said' m_kept' m_drawX' => A_stumbles a p0 p1 p2 p3 r ∧ MRel a m_tape m_taped m_rules m_sign m_clause m_clauses m_said' m_force m_x m_wasSaid m_undone m_images m_imageForce m_imageX m_isMade)) (rm_stumbles (by omega) hA hR.2.2.2.1 hR.2.2.1 hR.2.2.2.2.1 hR.2.2.2.2.2.1 (fun r hr _ _ _ _ _ => ⟨hr, hR⟩))) (fun out ho => ?_)
  obtain ⟨r, m_stack', m_top', m_word', m_said', m_kept', m_drawX', rfl, h1, h2⟩ := ho
  exact ⟨r, _, rfl, h1, MR_i rfl (h2)⟩
theorem mc_fewest {p0 : Int32} (hA : AOk a) (hM : MR a w) : EM (ax_GG X) m_X12_fewest [.ref 0, .int p0] w (fun out => ∃ r w', out = (some (.int r), w', [], 0) ∧ A_fewest a p0 r ∧ MR a w') := by
  refine MR_e hM (fun m_tape m_taped m_rules m_sign m_length m_clause m_clauses m_read m_next m_wrong m_number m_text m_made m_deep m_lines m_open m_opened m_stack m_top m_word m_said m_force m_x m_wasSaid m_undone m_row m_rowThen m_far m_queue m_reached m_stepWho m_stepBacks m_kept m_hasBy m_standsThen m_isFit m_firstThen m_drawX m_images m_imageForce m_imageX m_isMade hw_ hR => ?_)
  subst hw_
  refine EM.mono (em_X12_fewest (N := 6000) (Q := (fun r m_row' m_rowThen' m_far' m_queue' m_reached' => A_fewest a p0 r ∧ MRel a m_tape m_taped m_rules m_sign m_clause m_clauses m_said m_force m_x m_wasSaid m_undone m_images m_imageForce m_imageX m_isMade)) (rm_fewest (by omega) hA hR.2.2.2.1 (fun r hr _ _ _ _ _ => ⟨hr, hR⟩))) (fun out ho => ?_)
  obtain ⟨r, m_row', m_rowThen', m_far', m_queue', m_reached', rfl, h1, h2⟩ := ho
  exact ⟨r, _, rfl, h1, MR_i rfl (h2)⟩
theorem mc_step {p0 p1 p2 : Int32} (hA : AOk a) (hM : MR a w) : EM (ax_GG X) m_X12_step [.ref 0, .int p0, .int p1, .int p2] w (fun out => ∃ r w', out = (some (.int r), w', [], 0) ∧ A_step a p0 p1 p2 r ∧ MR a w') := by
  refine MR_e hM (fun m_tape m_taped m_rules m_sign m_length m_clause m_clauses m_read m_next m_wrong m_number m_text m_made m_deep m_lines m_open m_opened m_stack m_top m_word m_said m_force m_x m_wasSaid m_undone m_row m_rowThen m_far m_queue m_reached m_stepWho m_stepBacks m_kept m_hasBy m_standsThen m_isFit m_firstThen m_drawX m_images m_imageForce m_imageX m_isMade hw_ hR => ?_)
  subst hw_
  refine EM.mono (em_X12_step (N := 6000) (Q := (fun r m_row' m_rowThen' m_far' m_queue' m_reached' m_stepWho' m_stepBacks' => A_step a p0 p1 p2 r ∧ MRel a m_tape m_taped m_rules m_sign m_clause m_clauses m_said m_force m_x m_wasSaid m_undone m_images m_imageForce m_imageX m_isMade)) (rm_step (by omega) hA hR.2.2.2.1 (fun r hr _ _ _ _ _ _ _ => ⟨hr, hR⟩))) (fun out ho => ?_)
  obtain ⟨r, m_row', m_rowThen', m_far', m_queue', m_reached', m_stepWho', m_stepBacks', rfl, h1, h2⟩ := ho
  exact ⟨r, _, rfl, h1, MR_i rfl (h2)⟩
theorem mc_orders {p0 : Int32} (hA : AOk a) (hM : MR a w) : EM (ax_GG X) m_X12_orders [.ref 0, .int p0] w (fun out => ∃ r w', out = (some (.int r), w', [], 0) ∧ A_orders a p0 r ∧ MR a w') := by
  refine MR_e hM (fun m_tape m_taped m_rules m_sign m_length m_clause m_clauses m_read m_next m_wrong m_number m_text m_made m_deep m_lines m_open m_opened m_stack m_top m_word m_said m_force m_x m_wasSaid m_undone m_row m_rowThen m_far m_queue m_reached m_stepWho m_stepBacks m_kept m_hasBy m_standsThen m_isFit m_firstThen m_drawX m_images m_imageForce m_imageX m_isMade hw_ hR => ?_)
  subst hw_
  refine EM.mono (em_X12_orders (N := 6000) (Q := (fun r m_row' m_rowThen' m_far' m_queue' m_reached' => A_orders a p0 r ∧ MRel a m_tape m_taped m_rules m_sign m_clause m_clauses m_said m_force m_x m_wasSaid m_undone m_images m_imageForce m_imageX m_isMade)) (rm_orders (by omega) hA hR.2.2.2.1 (fun r hr _ _ _ _ _ => ⟨hr, hR⟩))) (fun out ho => ?_)
  obtain ⟨r, m_row', m_rowThen', m_far', m_queue', m_reached', rfl, h1, h2⟩ := ho
  exact ⟨r, _, rfl, h1, MR_i rfl (h2)⟩
theorem mc_farthest {p0 : Int32} (hA : AOk a) (hM : MR a w) : EM (ax_GG X) m_X12_farthest [.ref 0, .int p0] w (fun out => ∃ r w', out = (some (.int r), w', [], 0) ∧ A_farthest a p0 r ∧ MR a w') := by
  refine MR_e hM (fun m_tape m_taped m_rules m_sign m_length m_clause m_clauses m_read m_next m_wrong m_number m_text m_made m_deep m_lines m_open m_opened m_stack m_top m_word m_said m_force m_x m_wasSaid m_undone m_row m_rowThen m_far m_queue m_reached m_stepWho m_stepBacks m_kept m_hasBy m_standsThen m_isFit m_firstThen m_drawX m_images m_imageForce m_imageX m_isMade hw_ hR => ?_)
  subst hw_
  refine EM.mono (em_X12_farthest (N := 6000) (Q := (fun r m_row' m_rowThen' m_far' m_queue' m_reached' => A_farthest a p0 r ∧ MRel a m_tape m_taped m_rules m_sign m_clause m_clauses m_said m_force m_x m_wasSaid m_undone m_images m_imageForce m_imageX m_isMade)) (rm_farthest (by omega) hA hR.2.2.2.1 (fun r hr _ _ _ _ _ => ⟨hr, hR⟩))) (fun out ho => ?_)
  obtain ⟨r, m_row', m_rowThen', m_far', m_queue', m_reached', rfl, h1, h2⟩ := ho
  exact ⟨r, _, rfl, h1, MR_i rfl (h2)⟩
theorem mc_first {p0 : Int32} (hA : AOk a) (hM : MR a w) : EM (ax_GG X) m_X12_first [.ref 0, .int p0] w (fun out => ∃ r w', out = (some (.int r), w', [], 0) ∧ A_first a p0 r ∧ MR a w') := by
  refine MR_e hM (fun m_tape m_taped m_rules m_sign m_length m_clause m_clauses m_read m_next m_wrong m_number m_text m_made m_deep m_lines m_open m_opened m_stack m_top m_word m_said m_force m_x m_wasSaid m_undone m_row m_rowThen m_far m_queue m_reached m_stepWho m_stepBacks m_kept m_hasBy m_standsThen m_isFit m_firstThen m_drawX m_images m_imageForce m_imageX m_isMade hw_ hR => ?_)
  subst hw_
  refine EM.mono (em_X12_first (N := 6000) (Q := (fun r m_row' m_rowThen' m_far' m_queue' m_reached' => A_first a p0 r ∧ MRel a m_tape m_taped m_rules m_sign m_clause m_clauses m_said m_force m_x m_wasSaid m_undone m_images m_imageForce m_imageX m_isMade)) (rm_first (by omega) hA hR.2.2.2.1 (fun r hr _ _ _ _ _ => ⟨hr, hR⟩))) (fun out ho => ?_)
  obtain ⟨r, m_row', m_rowThen', m_far', m_queue', m_reached', rfl, h1, h2⟩ := ho
  exact ⟨r, _, rfl, h1, MR_i rfl (h2)⟩
theorem mc_behind {p0 : Int32} (hA : AOk a) (hM : MR a w) : EM (ax_GG X) m_X12_behind [.ref 0, .int p0] w (fun out => ∃ r w', out = (some (.int r), w', [], 0) ∧ A_behind a p0 r ∧ MR a w') := by
  refine MR_e hM (fun m_tape m_taped m_rules m_sign m_length m_clause m_clauses m_read m_next m_wrong m_number m_text m_made m_deep m_lines m_open m_opened m_stack m_top m_word m_said m_force m_x m_wasSaid m_undone m_row m_rowThen m_far m_queue m_reached m_stepWho m_stepBacks m_kept m_hasBy m_standsThen m_isFit m_firstThen m_drawX m_images m_imageForce m_imageX m_isMade hw_ hR => ?_)
  subst hw_
  refine EM.mono (em_X12_behind (N := 6000) (Q := (fun r m_row' m_rowThen' m_far' m_queue' m_reached' => A_behind a p0 r ∧ MRel a m_tape m_taped m_rules m_sign m_clause m_clauses m_said m_force m_x m_wasSaid m_undone m_images m_imageForce m_imageX m_isMade)) (rm_behind (by omega) hA hR.2.2.2.1 (fun r hr _ _ _ _ _ => ⟨hr, hR⟩))) (fun out ho => ?_)
  obtain ⟨r, m_row', m_rowThen', m_far', m_queue', m_reached', rfl, h1, h2⟩ := ho
  exact ⟨r, _, rfl, h1, MR_i rfl (h2)⟩
end LWM
