abbrev OuKT : Type := RdT × BdT × (Nat → Int32) × BkT × Int32 × Int32 × Int32 × Int32
abbrev OuK_reader (s : OuKT) : RdT := s.1
abbrev OuK_trial (s : OuKT) : BdT := s.2.1
abbrev OuK_order (s : OuKT) : (Nat → Int32) := s.2.2.1
abbrev OuK_books (s : OuKT) : BkT := s.2.2.2.1
abbrev OuK_isKept (s : OuKT) : Int32 := s.2.2.2.2.1
abbrev OuK_trouble (s : OuKT) : Int32 := s.2.2.2.2.2.1
abbrev OuK_fault (s : OuKT) : Int32 := s.2.2.2.2.2.2.1
abbrev OuK_place (s : OuKT) : Int32 := s.2.2.2.2.2.2.2
abbrev OuK_mk (x0 : RdT) (x1 : BdT) (x2 : (Nat → Int32)) (x3 : BkT) (x4 : Int32) (x5 : Int32) (x6 : Int32) (x7 : Int32) : OuKT := (x0, x1, x2, x3, x4, x5, x6, x7)
abbrev OuK_w_reader (s : OuKT) (v : RdT) : OuKT := (v, s.2.1, s.2.2.1, s.2.2.2.1, s.2.2.2.2.1, s.2.2.2.2.2.1, s.2.2.2.2.2.2.1, s.2.2.2.2.2.2.2)
abbrev OuK_w_trial (s : OuKT) (v : BdT) : OuKT := (s.1, v, s.2.2.1, s.2.2.2.1, s.2.2.2.2.1, s.2.2.2.2.2.1, s.2.2.2.2.2.2.1, s.2.2.2.2.2.2.2)
abbrev OuK_w_order (s : OuKT) (v : (Nat → Int32)) : OuKT := (s.1, s.2.1, v, s.2.2.2.1, s.2.2.2.2.1, s.2.2.2.2.2.1, s.2.2.2.2.2.2.1, s.2.2.2.2.2.2.2)
abbrev OuK_w_books (s : OuKT) (v : BkT) : OuKT := (s.1, s.2.1, s.2.2.1, v, s.2.2.2.2.1, s.2.2.2.2.2.1, s.2.2.2.2.2.2.1, s.2.2.2.2.2.2.2)
abbrev OuK_w_isKept (s : OuKT) (v : Int32) : OuKT := (s.1, s.2.1, s.2.2.1, s.2.2.2.1, v, s.2.2.2.2.2.1, s.2.2.2.2.2.2.1, s.2.2.2.2.2.2.2)
abbrev OuK_w_trouble (s : OuKT) (v : Int32) : OuKT := (s.1, s.2.1, s.2.2.1, s.2.2.2.1, s.2.2.2.2.1, v, s.2.2.2.2.2.2.1, s.2.2.2.2.2.2.2)
abbrev OuK_w_fault (s : OuKT) (v : Int32) : OuKT := (s.1, s.2.1, s.2.2.1, s.2.2.2.1, s.2.2.2.2.1, s.2.2.2.2.2.1, v, s.2.2.2.2.2.2.2)
abbrev OuK_w_place (s : OuKT) (v : Int32) : OuKT := (s.1, s.2.1, s.2.2.1, s.2.2.2.1, s.2.2.2.2.1, s.2.2.2.2.2.1, s.2.2.2.2.2.2.1, v)
abbrev OuK_c (g : GK) (a : Nat → Nat) (s : OuKT) : va_W := [(a 0, .inr (9, [.ref (a 1), .ref (a 9), .ref (a 18), .ref (a 19), .null, .int (OuK_isKept s), .int (OuK_trouble s), .int (OuK_fault s), .int (OuK_place s)])), (a 1, .inr (4, [.ref (a 2), .ref (a 4), .ref (a 6), .ref (a 8), .int (Rd_count (OuK_reader s)), .int (Rd_hasDesk (OuK_reader s)), .int (Rd_how (OuK_reader s)), .int (Rd_keep (OuK_reader s)), .int (Rd_late (OuK_reader s)), .int (Rd_number (OuK_reader s)), .int (Rd_fault (OuK_reader s)), .int (Rd_place (OuK_reader s))])), (a 2, .inr (7, [.ref (a 3), .int (Tp_length (Rd_tape (OuK_reader s))), .int (Tp_end (Rd_tape (OuK_reader s))), .int (Tp_at (Rd_tape (OuK_reader s))), .int (Tp_kind (Rd_tape (OuK_reader s))), .int (Tp_start (Rd_tape (OuK_reader s))), .long (Tp_word (Rd_tape (OuK_reader s))), .int (Tp_whole (Rd_tape (OuK_reader s)))])), (a 3, .inl (g.2.2.2.1, 900, .inl (Tp_bytes (Rd_tape (OuK_reader s))))), (a 4, .inr (8, [.ref (a 5), .int (Wd_count (Rd_keys (OuK_reader s)))])), (a 5, .inl (g.2.2.1, 8, .inr (.inl (Wd_packs (Rd_keys (OuK_reader s)))))), (a 6, .inr (8, [.ref (a 7), .int (Wd_count (Rd_values (OuK_reader s)))])), (a 7, .inl (g.2.2.1, 8, .inr (.inl (Wd_packs (Rd_values (OuK_reader s)))))), (a 8, .inl (g.2.1, 200, .inl (Rd_lines (OuK_reader s)))), (a 9, .inr (1, [.ref (a 10), .ref (a 11), .ref (a 12), .ref (a 13), .int (Bd_how (OuK_trial s))])), (a 10, .inl (g.2.1, 128, .inl (Bd_nets (OuK_trial s)))), (a 11, .inl (g.2.1, 648, .inl (Bd_sums (OuK_trial s)))), (a 12, .inl (g.2.1, 16, .inl (Bd_turns (OuK_trial s)))), (a 13, .inr (3, [.ref (a 14), .ref (a 15), .ref (a 16), .ref (a 17), .int (Lg_total (Bd_ledger (OuK_trial s))), .int (Lg_came (Bd_ledger (OuK_trial s))), .int (Lg_went (Bd_ledger (OuK_trial s))), .int (Lg_acts (Bd_ledger (OuK_trial s))), .int (Lg_inAct (Bd_ledger (OuK_trial s))), .int (Lg_most (Bd_ledger (OuK_trial s))), .int (Lg_actOfMost (Bd_ledger (OuK_trial s)))])), (a 14, .inl (g.2.1, 60, .inl (Lg_places (Bd_ledger (OuK_trial s))))), (a 15, .inl (g.2.1, 60, .inl (Lg_amounts (Bd_ledger (OuK_trial s))))), (a 16, .inl (g.2.1, 60, .inl (Lg_numbers (Bd_ledger (OuK_trial s))))), (a 17, .inl (g.2.1, 8, .inl (Lg_byKey (Bd_ledger (OuK_trial s))))), (a 18, .inl (g.2.1, 60, .inl (OuK_order s))), (a 19, .inr (2, [.ref (a 20), .ref (a 22), .ref (a 24), .ref (a 33), .ref (a 38), .ref (a 42), .ref (a 43), .int (Bk_keep (OuK_books s)), .int (Bk_late (OuK_books s)), .int (Bk_clock (OuK_books s)), .int (Bk_tooLate (OuK_books s)), .int (Bk_lapsed (OuK_books s))])), (a 20, .inr (8, [.ref (a 21), .int (Wd_count (Bk_keys (OuK_books s)))])), (a 21, .inl (g.2.2.1, 8, .inr (.inl (Wd_packs (Bk_keys (OuK_books s)))))), (a 22, .inr (8, [.ref (a 23), .int (Wd_count (Bk_values (OuK_books s)))])), (a 23, .inl (g.2.2.1, 8, .inr (.inl (Wd_packs (Bk_values (OuK_books s)))))), (a 24, .inr (1, [.ref (a 25), .ref (a 26), .ref (a 27), .ref (a 28), .int (Bd_how (Bk_board (OuK_books s)))])), (a 25, .inl (g.2.1, 128, .inl (Bd_nets (Bk_board (OuK_books s))))), (a 26, .inl (g.2.1, 648, .inl (Bd_sums (Bk_board (OuK_books s))))), (a 27, .inl (g.2.1, 16, .inl (Bd_turns (Bk_board (OuK_books s))))), (a 28, .inr (3, [.ref (a 29), .ref (a 30), .ref (a 31), .ref (a 32), .int (Lg_total (Bd_ledger (Bk_board (OuK_books s)))), .int (Lg_came (Bd_ledger (Bk_board (OuK_books s)))), .int (Lg_went (Bd_ledger (Bk_board (OuK_books s)))), .int (Lg_acts (Bd_ledger (Bk_board (OuK_books s)))), .int (Lg_inAct (Bd_ledger (Bk_board (OuK_books s)))), .int (Lg_most (Bd_ledger (Bk_board (OuK_books s)))), .int (Lg_actOfMost (Bd_ledger (Bk_board (OuK_books s))))])), (a 29, .inl (g.2.1, 60, .inl (Lg_places (Bd_ledger (Bk_board (OuK_books s)))))), (a 30, .inl (g.2.1, 60, .inl (Lg_amounts (Bd_ledger (Bk_board (OuK_books s)))))), (a 31, .inl (g.2.1, 60, .inl (Lg_numbers (Bd_ledger (Bk_board (OuK_books s)))))), (a 32, .inl (g.2.1, 8, .inl (Lg_byKey (Bd_ledger (Bk_board (OuK_books s)))))), (a 33, .inr (5, [.ref (a 34), .ref (a 35), .ref (a 36), .ref (a 37), .int (St_count (Bk_store (OuK_books s)))])), (a 34, .inl (g.2.1, 60, .inl (St_sides (Bk_store (OuK_books s))))), (a 35, .inl (g.2.1, 60, .inl (St_keys (Bk_store (OuK_books s))))), (a 36, .inl (g.2.1, 60, .inl (St_values (Bk_store (OuK_books s))))), (a 37, .inl (g.2.1, 60, .inl (St_manies (Bk_store (OuK_books s))))), (a 38, .inr (6, [.ref (a 39), .ref (a 40), .ref (a 41)])), (a 39, .inl (g.2.1, 4, .inl (Sb_seen (Bk_subscribers (OuK_books s))))), (a 40, .inl (g.2.1, 2592, .inl (Sb_holds (Bk_subscribers (OuK_books s))))), (a 41, .inl (g.2.1, 2592, .inl (Sb_differences (Bk_subscribers (OuK_books s))))), (a 42, .inl (g.2.1, 8, .inl (Bk_latest (OuK_books s)))), (a 43, .inl (g.2.1, 8, .inl (Bk_lapses (OuK_books s))))]
abbrev OuST : Type := RdT × BdT × (Nat → Int32) × BkT × BkT × Int32 × Int32 × Int32 × Int32
abbrev OuS_reader (s : OuST) : RdT := s.1
abbrev OuS_trial (s : OuST) : BdT := s.2.1
abbrev OuS_order (s : OuST) : (Nat → Int32) := s.2.2.1
abbrev OuS_books (s : OuST) : BkT := s.2.2.2.1
abbrev OuS_shelf (s : OuST) : BkT := s.2.2.2.2.1
abbrev OuS_isKept (s : OuST) : Int32 := s.2.2.2.2.2.1
abbrev OuS_trouble (s : OuST) : Int32 := s.2.2.2.2.2.2.1
abbrev OuS_fault (s : OuST) : Int32 := s.2.2.2.2.2.2.2.1
abbrev OuS_place (s : OuST) : Int32 := s.2.2.2.2.2.2.2.2
abbrev OuS_mk (x0 : RdT) (x1 : BdT) (x2 : (Nat → Int32)) (x3 : BkT) (x4 : BkT) (x5 : Int32) (x6 : Int32) (x7 : Int32) (x8 : Int32) : OuST := (x0, x1, x2, x3, x4, x5, x6, x7, x8)
abbrev OuS_w_reader (s : OuST) (v : RdT) : OuST := (v, s.2.1, s.2.2.1, s.2.2.2.1, s.2.2.2.2.1, s.2.2.2.2.2.1, s.2.2.2.2.2.2.1, s.2.2.2.2.2.2.2.1, s.2.2.2.2.2.2.2.2)
abbrev OuS_w_trial (s : OuST) (v : BdT) : OuST := (s.1, v, s.2.2.1, s.2.2.2.1, s.2.2.2.2.1, s.2.2.2.2.2.1, s.2.2.2.2.2.2.1, s.2.2.2.2.2.2.2.1, s.2.2.2.2.2.2.2.2)
abbrev OuS_w_order (s : OuST) (v : (Nat → Int32)) : OuST := (s.1, s.2.1, v, s.2.2.2.1, s.2.2.2.2.1, s.2.2.2.2.2.1, s.2.2.2.2.2.2.1, s.2.2.2.2.2.2.2.1, s.2.2.2.2.2.2.2.2)
abbrev OuS_w_books (s : OuST) (v : BkT) : OuST := (s.1, s.2.1, s.2.2.1, v, s.2.2.2.2.1, s.2.2.2.2.2.1, s.2.2.2.2.2.2.1, s.2.2.2.2.2.2.2.1, s.2.2.2.2.2.2.2.2)
abbrev OuS_w_shelf (s : OuST) (v : BkT) : OuST := (s.1, s.2.1, s.2.2.1, s.2.2.2.1, v, s.2.2.2.2.2.1, s.2.2.2.2.2.2.1, s.2.2.2.2.2.2.2.1, s.2.2.2.2.2.2.2.2)
abbrev OuS_w_isKept (s : OuST) (v : Int32) : OuST := (s.1, s.2.1, s.2.2.1, s.2.2.2.1, s.2.2.2.2.1, v, s.2.2.2.2.2.2.1, s.2.2.2.2.2.2.2.1, s.2.2.2.2.2.2.2.2)
abbrev OuS_w_trouble (s : OuST) (v : Int32) : OuST := (s.1, s.2.1, s.2.2.1, s.2.2.2.1, s.2.2.2.2.1, s.2.2.2.2.2.1, v, s.2.2.2.2.2.2.2.1, s.2.2.2.2.2.2.2.2)
abbrev OuS_w_fault (s : OuST) (v : Int32) : OuST := (s.1, s.2.1, s.2.2.1, s.2.2.2.1, s.2.2.2.2.1, s.2.2.2.2.2.1, s.2.2.2.2.2.2.1, v, s.2.2.2.2.2.2.2.2)
abbrev OuS_w_place (s : OuST) (v : Int32) : OuST := (s.1, s.2.1, s.2.2.1, s.2.2.2.1, s.2.2.2.2.1, s.2.2.2.2.2.1, s.2.2.2.2.2.2.1, s.2.2.2.2.2.2.2.1, v)
abbrev OuS_c (g : GK) (a : Nat → Nat) (s : OuST) : va_W := [(a 0, .inr (9, [.ref (a 1), .ref (a 9), .ref (a 18), .ref (a 19), .ref (a 44), .int (OuS_isKept s), .int (OuS_trouble s), .int (OuS_fault s), .int (OuS_place s)])), (a 1, .inr (4, [.ref (a 2), .ref (a 4), .ref (a 6), .ref (a 8), .int (Rd_count (OuS_reader s)), .int (Rd_hasDesk (OuS_reader s)), .int (Rd_how (OuS_reader s)), .int (Rd_keep (OuS_reader s)), .int (Rd_late (OuS_reader s)), .int (Rd_number (OuS_reader s)), .int (Rd_fault (OuS_reader s)), .int (Rd_place (OuS_reader s))])), (a 2, .inr (7, [.ref (a 3), .int (Tp_length (Rd_tape (OuS_reader s))), .int (Tp_end (Rd_tape (OuS_reader s))), .int (Tp_at (Rd_tape (OuS_reader s))), .int (Tp_kind (Rd_tape (OuS_reader s))), .int (Tp_start (Rd_tape (OuS_reader s))), .long (Tp_word (Rd_tape (OuS_reader s))), .int (Tp_whole (Rd_tape (OuS_reader s)))])), (a 3, .inl (g.2.2.2.1, 900, .inl (Tp_bytes (Rd_tape (OuS_reader s))))), (a 4, .inr (8, [.ref (a 5), .int (Wd_count (Rd_keys (OuS_reader s)))])), (a 5, .inl (g.2.2.1, 8, .inr (.inl (Wd_packs (Rd_keys (OuS_reader s)))))), (a 6, .inr (8, [.ref (a 7), .int (Wd_count (Rd_values (OuS_reader s)))])), (a 7, .inl (g.2.2.1, 8, .inr (.inl (Wd_packs (Rd_values (OuS_reader s)))))), (a 8, .inl (g.2.1, 200, .inl (Rd_lines (OuS_reader s)))), (a 9, .inr (1, [.ref (a 10), .ref (a 11), .ref (a 12), .ref (a 13), .int (Bd_how (OuS_trial s))])), (a 10, .inl (g.2.1, 128, .inl (Bd_nets (OuS_trial s)))), (a 11, .inl (g.2.1, 648, .inl (Bd_sums (OuS_trial s)))), (a 12, .inl (g.2.1, 16, .inl (Bd_turns (OuS_trial s)))), (a 13, .inr (3, [.ref (a 14), .ref (a 15), .ref (a 16), .ref (a 17), .int (Lg_total (Bd_ledger (OuS_trial s))), .int (Lg_came (Bd_ledger (OuS_trial s))), .int (Lg_went (Bd_ledger (OuS_trial s))), .int (Lg_acts (Bd_ledger (OuS_trial s))), .int (Lg_inAct (Bd_ledger (OuS_trial s))), .int (Lg_most (Bd_ledger (OuS_trial s))), .int (Lg_actOfMost (Bd_ledger (OuS_trial s)))])), (a 14, .inl (g.2.1, 60, .inl (Lg_places (Bd_ledger (OuS_trial s))))), (a 15, .inl (g.2.1, 60, .inl (Lg_amounts (Bd_ledger (OuS_trial s))))), (a 16, .inl (g.2.1, 60, .inl (Lg_numbers (Bd_ledger (OuS_trial s))))), (a 17, .inl (g.2.1, 8, .inl (Lg_byKey (Bd_ledger (OuS_trial s))))), (a 18, .inl (g.2.1, 60, .inl (OuS_order s))), (a 19, .inr (2, [.ref (a 20), .ref (a 22), .ref (a 24), .ref (a 33), .ref (a 38), .ref (a 42), .ref (a 43), .int (Bk_keep (OuS_books s)), .int (Bk_late (OuS_books s)), .int (Bk_clock (OuS_books s)), .int (Bk_tooLate (OuS_books s)), .int (Bk_lapsed (OuS_books s))])), (a 20, .inr (8, [.ref (a 21), .int (Wd_count (Bk_keys (OuS_books s)))])), (a 21, .inl (g.2.2.1, 8, .inr (.inl (Wd_packs (Bk_keys (OuS_books s)))))), (a 22, .inr (8, [.ref (a 23), .int (Wd_count (Bk_values (OuS_books s)))])), (a 23, .inl (g.2.2.1, 8, .inr (.inl (Wd_packs (Bk_values (OuS_books s)))))), (a 24, .inr (1, [.ref (a 25), .ref (a 26), .ref (a 27), .ref (a 28), .int (Bd_how (Bk_board (OuS_books s)))])), (a 25, .inl (g.2.1, 128, .inl (Bd_nets (Bk_board (OuS_books s))))), (a 26, .inl (g.2.1, 648, .inl (Bd_sums (Bk_board (OuS_books s))))), (a 27, .inl (g.2.1, 16, .inl (Bd_turns (Bk_board (OuS_books s))))), (a 28, .inr (3, [.ref (a 29), .ref (a 30), .ref (a 31), .ref (a 32), .int (Lg_total (Bd_ledger (Bk_board (OuS_books s)))), .int (Lg_came (Bd_ledger (Bk_board (OuS_books s)))), .int (Lg_went (Bd_ledger (Bk_board (OuS_books s)))), .int (Lg_acts (Bd_ledger (Bk_board (OuS_books s)))), .int (Lg_inAct (Bd_ledger (Bk_board (OuS_books s)))), .int (Lg_most (Bd_ledger (Bk_board (OuS_books s)))), .int (Lg_actOfMost (Bd_ledger (Bk_board (OuS_books s))))])), (a 29, .inl (g.2.1, 60, .inl (Lg_places (Bd_ledger (Bk_board (OuS_books s)))))), (a 30, .inl (g.2.1, 60, .inl (Lg_amounts (Bd_ledger (Bk_board (OuS_books s)))))), (a 31, .inl (g.2.1, 60, .inl (Lg_numbers (Bd_ledger (Bk_board (OuS_books s)))))), (a 32, .inl (g.2.1, 8, .inl (Lg_byKey (Bd_ledger (Bk_board (OuS_books s)))))), (a 33, .inr (5, [.ref (a 34), .ref (a 35), .ref (a 36), .ref (a 37), .int (St_count (Bk_store (OuS_books s)))])), (a 34, .inl (g.2.1, 60, .inl (St_sides (Bk_store (OuS_books s))))), (a 35, .inl (g.2.1, 60, .inl (St_keys (Bk_store (OuS_books s))))), (a 36, .inl (g.2.1, 60, .inl (St_values (Bk_store (OuS_books s))))), (a 37, .inl (g.2.1, 60, .inl (St_manies (Bk_store (OuS_books s))))), (a 38, .inr (6, [.ref (a 39), .ref (a 40), .ref (a 41)])), (a 39, .inl (g.2.1, 4, .inl (Sb_seen (Bk_subscribers (OuS_books s))))), (a 40, .inl (g.2.1, 2592, .inl (Sb_holds (Bk_subscribers (OuS_books s))))), (a 41, .inl (g.2.1, 2592, .inl (Sb_differences (Bk_subscribers (OuS_books s))))), (a 42, .inl (g.2.1, 8, .inl (Bk_latest (OuS_books s)))), (a 43, .inl (g.2.1, 8, .inl (Bk_lapses (OuS_books s)))), (a 44, .inr (2, [.ref (a 45), .ref (a 47), .ref (a 49), .ref (a 58), .ref (a 63), .ref (a 67), .ref (a 68), .int (Bk_keep (OuS_shelf s)), .int (Bk_late (OuS_shelf s)), .int (Bk_clock (OuS_shelf s)), .int (Bk_tooLate (OuS_shelf s)), .int (Bk_lapsed (OuS_shelf s))])), (a 45, .inr (8, [.ref (a 46), .int (Wd_count (Bk_keys (OuS_shelf s)))])), (a 46, .inl (g.2.2.1, 8, .inr (.inl (Wd_packs (Bk_keys (OuS_shelf s)))))), (a 47, .inr (8, [.ref (a 48), .int (Wd_count (Bk_values (OuS_shelf s)))])), (a 48, .inl (g.2.2.1, 8, .inr (.inl (Wd_packs (Bk_values (OuS_shelf s)))))), (a 49, .inr (1, [.ref (a 50), .ref (a 51), .ref (a 52), .ref (a 53), .int (Bd_how (Bk_board (OuS_shelf s)))])), (a 50, .inl (g.2.1, 128, .inl (Bd_nets (Bk_board (OuS_shelf s))))), (a 51, .inl (g.2.1, 648, .inl (Bd_sums (Bk_board (OuS_shelf s))))), (a 52, .inl (g.2.1, 16, .inl (Bd_turns (Bk_board (OuS_shelf s))))), (a 53, .inr (3, [.ref (a 54), .ref (a 55), .ref (a 56), .ref (a 57), .int (Lg_total (Bd_ledger (Bk_board (OuS_shelf s)))), .int (Lg_came (Bd_ledger (Bk_board (OuS_shelf s)))), .int (Lg_went (Bd_ledger (Bk_board (OuS_shelf s)))), .int (Lg_acts (Bd_ledger (Bk_board (OuS_shelf s)))), .int (Lg_inAct (Bd_ledger (Bk_board (OuS_shelf s)))), .int (Lg_most (Bd_ledger (Bk_board (OuS_shelf s)))), .int (Lg_actOfMost (Bd_ledger (Bk_board (OuS_shelf s))))])), (a 54, .inl (g.2.1, 60, .inl (Lg_places (Bd_ledger (Bk_board (OuS_shelf s)))))), (a 55, .inl (g.2.1, 60, .inl (Lg_amounts (Bd_ledger (Bk_board (OuS_shelf s)))))), (a 56, .inl (g.2.1, 60, .inl (Lg_numbers (Bd_ledger (Bk_board (OuS_shelf s)))))), (a 57, .inl (g.2.1, 8, .inl (Lg_byKey (Bd_ledger (Bk_board (OuS_shelf s)))))), (a 58, .inr (5, [.ref (a 59), .ref (a 60), .ref (a 61), .ref (a 62), .int (St_count (Bk_store (OuS_shelf s)))])), (a 59, .inl (g.2.1, 60, .inl (St_sides (Bk_store (OuS_shelf s))))), (a 60, .inl (g.2.1, 60, .inl (St_keys (Bk_store (OuS_shelf s))))), (a 61, .inl (g.2.1, 60, .inl (St_values (Bk_store (OuS_shelf s))))), (a 62, .inl (g.2.1, 60, .inl (St_manies (Bk_store (OuS_shelf s))))), (a 63, .inr (6, [.ref (a 64), .ref (a 65), .ref (a 66)])), (a 64, .inl (g.2.1, 4, .inl (Sb_seen (Bk_subscribers (OuS_shelf s))))), (a 65, .inl (g.2.1, 2592, .inl (Sb_holds (Bk_subscribers (OuS_shelf s))))), (a 66, .inl (g.2.1, 2592, .inl (Sb_differences (Bk_subscribers (OuS_shelf s))))), (a 67, .inl (g.2.1, 8, .inl (Bk_latest (OuS_shelf s)))), (a 68, .inl (g.2.1, 8, .inl (Bk_lapses (OuS_shelf s))))]
def f_X8_refuse_K (s0 : OuKT) (p1 : Int32) (p2 : Int32) : Option (Int32 × OuKT) :=
  some (p2, (OuK_w_trouble s0 p1))
abbrev rm_X8_refuse_K : Room := { frames := 0, cells := 0, slots := 0, locals := 0 }
set_option maxHeartbeats 4000000 in
set_option maxRecDepth 100000 in
theorem c_X8_refuse_K (l : Launch) (g : GK) (a0 : Nat → Nat) (s0 : OuKT) (p1 : Int32) (p2 : Int32) (res : (Int32 × OuKT)) (hf : f_X8_refuse_K s0 p1 p2 = some res) : gM l yX8_refuse cX8_refuse 3 (some .int) rm_X8_refuse_K g [.ref (a0 0), .int p1, .int p2] (OuK_c g a0 s0) (fun _ : Unit => (some (.int (res.1)))) (fun _ => (OuK_c g a0 (res.2))) 0 0 := by
  refine gM_introI RX8 (by decide) rfl (Nat.le_of_ble_eq_true rfl) (fun p e s m args below meth c Q H locs ls A hE hZ hA hP hD hS hq hl => ?_)
  have hl : lv_has ls 3 [(0, .ref (a0 0)), (1, .int p1), (2, .int p2)] := hl
  have hx := hE.1
  have hb := hE.2.1
  rw [f_X8_refuse_K] at hf
  refine lv_aload_n hx hb dX8_refuse_0 rfl (lv_at hl 0 rfl) ?_
  refine lv_iload_n hx hb dX8_refuse_1 rfl (lv_at hl 1 rfl) ?_
  refine g_put hE okX8 fl_X8_42 hP hD hS 0 rfl rfl rfl rfl (Nat.le_of_ble_eq_true rfl) (OuK_c g a0 (OuK_w_trouble s0 p1)) rfl dX8_refuse_2 (fun H locs hP hD hS => ?_)
  refine lv_iload_n hx hb dX8_refuse_5 rfl (lv_at hl 2 rfl) ?_
  cases hf
  exact hq () rfl hP hD hS dX8_refuse_6
def f_X8_accept_K (s0 : OuKT) (p1 : Int32) : Option (Int32 × OuKT) :=
  some (p1, (OuK_w_trouble s0 (0 : Int32)))
abbrev rm_X8_accept_K : Room := { frames := 0, cells := 0, slots := 0, locals := 0 }
set_option maxHeartbeats 4000000 in
set_option maxRecDepth 100000 in
theorem c_X8_accept_K (l : Launch) (g : GK) (a0 : Nat → Nat) (s0 : OuKT) (p1 : Int32) (res : (Int32 × OuKT)) (hf : f_X8_accept_K s0 p1 = some res) : gM l yX8_accept cX8_accept 2 (some .int) rm_X8_accept_K g [.ref (a0 0), .int p1] (OuK_c g a0 s0) (fun _ : Unit => (some (.int (res.1)))) (fun _ => (OuK_c g a0 (res.2))) 0 0 := by
  refine gM_introI RX8 (by decide) rfl (Nat.le_of_ble_eq_true rfl) (fun p e s m args below meth c Q H locs ls A hE hZ hA hP hD hS hq hl => ?_)
  have hl : lv_has ls 2 [(0, .ref (a0 0)), (1, .int p1)] := hl
  have hx := hE.1
  have hb := hE.2.1
  rw [f_X8_accept_K] at hf
  refine lv_aload_n hx hb dX8_accept_0 rfl (lv_at hl 0 rfl) ?_
  refine lv_iconst hx hb dX8_accept_1 kci_0 ?_
  refine g_put hE okX8 fl_X8_42 hP hD hS 0 rfl rfl rfl rfl (Nat.le_of_ble_eq_true rfl) (OuK_c g a0 (OuK_w_trouble s0 (0 : Int32))) rfl dX8_accept_2 (fun H locs hP hD hS => ?_)
  refine lv_iload_n hx hb dX8_accept_5 rfl (lv_at hl 1 rfl) ?_
  cases hf
  exact hq () rfl hP hD hS dX8_accept_6
def f_X8_back_K (s0 : OuKT) : Option (Int32 × OuKT) :=
  (f_X8_refuse_K s0 (1 : Int32) (0 : Int32)).bind fun r1 =>
  if (r1.1) = 0 then some ((0 : Int32), (r1.2))
  else some ((1 : Int32), (r1.2))
abbrev rm_X8_back_K : Room := { frames := 4, cells := 0, slots := 0, locals := 103 }
set_option maxHeartbeats 4000000 in
set_option maxRecDepth 100000 in
theorem c_X8_back_K (l : Launch) (g : GK) (a0 : Nat → Nat) (s0 : OuKT) (res : (Int32 × OuKT)) (hf : f_X8_back_K s0 = some res) : gM l yX8_back cX8_back 1 (some .boolean) rm_X8_back_K g [.ref (a0 0)] (OuK_c g a0 s0) (fun _ : Unit => (some (.int (res.1)))) (fun _ => (OuK_c g a0 (res.2))) 0 0 := by
  refine gM_introZ RX8 (by decide) rfl (Nat.le_of_ble_eq_true rfl) (fun p e s m args below meth c Q H locs ls A hE hZ hA hP hD hS hq hl => ?_)
  have hl : lv_has ls 1 [(0, .ref (a0 0))] := hl
  have hx := hE.1
  have hb := hE.2.1
  rw [f_X8_back_K] at hf
  refine lv_aload_n hx hb dX8_back_0 rfl (lv_at hl 0 rfl) ?_
  refine g_get hE okX8 fl_X8_31 hP 0 rfl (v := .ref (a0 19)) rfl dX8_back_1 ?_
  refine lv_ifnull hx hb dX8_back_4 ?_
  refine lv_aload_n hx hb dX8_back_7 rfl (lv_at hl 0 rfl) ?_
  refine g_get hE okX8 fl_X8_35 hP 0 rfl (v := .null) rfl dX8_back_8 ?_
  refine lv_ifnullN hx hb dX8_back_11 (tgt := 21) rfl ?_
  refine lv_aload_n hx hb dX8_back_21 rfl (lv_at hl 0 rfl) ?_
  refine lv_iconst hx hb dX8_back_22 kci_1 ?_
  refine lv_iconst hx hb dX8_back_23 kci_0 ?_
  obtain ⟨r1, hc2, hf⟩ := gbd hf
  refine gm_callV1 (As := [.int (1 : Int32), .int (0 : Int32)]) (rest := []) (st1 := fun _ => [.int (r1.1)]) (ws' := fun _ => (OuK_c g a0 (r1.2))) hE hl.1 ml_X8_69 (c_X8_refuse_K l g a0 s0 (1 : Int32) (0 : Int32) r1 hc2) hZ hP hD hS hA 0 44 rfl (fun _ => rfl) okX8 rfl rfl rfl (fun _ => rfl) ⟨rfl, rfl⟩ ⟨Nat.le_of_ble_eq_true rfl, Nat.le_of_ble_eq_true rfl⟩ ⟨Nat.le_refl _, Nat.le_refl _⟩ (Nat.le_of_ble_eq_true rfl) dX8_back_24 (fun _ H locs hP hD hS => ?_)
  refine lv_if_eq hx hb dX8_back_27 (tgt := 34) rfl (fun h3 => ?_) (fun h3 => ?_)
  · have hf := gif_t h3 hf
    refine lv_iconst hx hb dX8_back_34 kci_0 ?_
    cases hf
    exact hq () (by decide) rfl hP hD hS dX8_back_35
  · have hf := gif_f h3 hf
    refine lv_iconst hx hb dX8_back_30 kci_1 ?_
    refine lv_goto hx hb dX8_back_31 (tgt := 35) rfl ?_
    cases hf
    exact hq () (by decide) rfl hP hD hS dX8_back_35
def f_X8_refuse_S (s0 : OuST) (p1 : Int32) (p2 : Int32) : Option (Int32 × OuST) :=
  some (p2, (OuS_w_trouble s0 p1))
abbrev rm_X8_refuse_S : Room := { frames := 0, cells := 0, slots := 0, locals := 0 }
set_option maxHeartbeats 4000000 in
set_option maxRecDepth 100000 in
theorem c_X8_refuse_S (l : Launch) (g : GK) (a0 : Nat → Nat) (s0 : OuST) (p1 : Int32) (p2 : Int32) (res : (Int32 × OuST)) (hf : f_X8_refuse_S s0 p1 p2 = some res) : gM l yX8_refuse cX8_refuse 3 (some .int) rm_X8_refuse_S g [.ref (a0 0), .int p1, .int p2] (OuS_c g a0 s0) (fun _ : Unit => (some (.int (res.1)))) (fun _ => (OuS_c g a0 (res.2))) 0 0 := by
  refine gM_introI RX8 (by decide) rfl (Nat.le_of_ble_eq_true rfl) (fun p e s m args below meth c Q H locs ls A hE hZ hA hP hD hS hq hl => ?_)
  have hl : lv_has ls 3 [(0, .ref (a0 0)), (1, .int p1), (2, .int p2)] := hl
  have hx := hE.1
  have hb := hE.2.1
  rw [f_X8_refuse_S] at hf
  refine lv_aload_n hx hb dX8_refuse_0 rfl (lv_at hl 0 rfl) ?_
  refine lv_iload_n hx hb dX8_refuse_1 rfl (lv_at hl 1 rfl) ?_
  refine g_put hE okX8 fl_X8_42 hP hD hS 0 rfl rfl rfl rfl (Nat.le_of_ble_eq_true rfl) (OuS_c g a0 (OuS_w_trouble s0 p1)) rfl dX8_refuse_2 (fun H locs hP hD hS => ?_)
  refine lv_iload_n hx hb dX8_refuse_5 rfl (lv_at hl 2 rfl) ?_
  cases hf
  exact hq () rfl hP hD hS dX8_refuse_6
def f_X8_accept_S (s0 : OuST) (p1 : Int32) : Option (Int32 × OuST) :=
  some (p1, (OuS_w_trouble s0 (0 : Int32)))
abbrev rm_X8_accept_S : Room := { frames := 0, cells := 0, slots := 0, locals := 0 }
set_option maxHeartbeats 4000000 in
set_option maxRecDepth 100000 in
theorem c_X8_accept_S (l : Launch) (g : GK) (a0 : Nat → Nat) (s0 : OuST) (p1 : Int32) (res : (Int32 × OuST)) (hf : f_X8_accept_S s0 p1 = some res) : gM l yX8_accept cX8_accept 2 (some .int) rm_X8_accept_S g [.ref (a0 0), .int p1] (OuS_c g a0 s0) (fun _ : Unit => (some (.int (res.1)))) (fun _ => (OuS_c g a0 (res.2))) 0 0 := by
  refine gM_introI RX8 (by decide) rfl (Nat.le_of_ble_eq_true rfl) (fun p e s m args below meth c Q H locs ls A hE hZ hA hP hD hS hq hl => ?_)
  have hl : lv_has ls 2 [(0, .ref (a0 0)), (1, .int p1)] := hl
  have hx := hE.1
  have hb := hE.2.1
  rw [f_X8_accept_S] at hf
  refine lv_aload_n hx hb dX8_accept_0 rfl (lv_at hl 0 rfl) ?_
  refine lv_iconst hx hb dX8_accept_1 kci_0 ?_
  refine g_put hE okX8 fl_X8_42 hP hD hS 0 rfl rfl rfl rfl (Nat.le_of_ble_eq_true rfl) (OuS_c g a0 (OuS_w_trouble s0 (0 : Int32))) rfl dX8_accept_2 (fun H locs hP hD hS => ?_)
  refine lv_iload_n hx hb dX8_accept_5 rfl (lv_at hl 1 rfl) ?_
  cases hf
  exact hq () rfl hP hD hS dX8_accept_6
def f_X8_keep_S (s0 : OuST) : Option (Int32 × OuST) :=
  (f_X1_copyFrom (OuS_shelf s0) (OuS_books s0)).bind fun r1 =>
  (f_X8_accept_S (OuS_w_isKept (OuS_w_shelf s0 r1) (1 : Int32)) (1 : Int32)).bind fun r3 =>
  if (r3.1) = 0 then some ((0 : Int32), (r3.2))
  else some ((1 : Int32), (r3.2))
abbrev rm_X8_keep_S : Room := { frames := 4, cells := 0, slots := 0, locals := 103 }
set_option maxHeartbeats 4000000 in
set_option maxRecDepth 100000 in
theorem c_X8_keep_S (l : Launch) (g : GK) (a0 : Nat → Nat) (s0 : OuST) (res : (Int32 × OuST)) (hf : f_X8_keep_S s0 = some res) : gM l yX8_keep cX8_keep 1 (some .boolean) rm_X8_keep_S g [.ref (a0 0)] (OuS_c g a0 s0) (fun _ : Unit => (some (.int (res.1)))) (fun _ => (OuS_c g a0 (res.2))) 0 0 := by
  refine gM_introZ RX8 (by decide) rfl (Nat.le_of_ble_eq_true rfl) (fun p e s m args below meth c Q H locs ls A hE hZ hA hP hD hS hq hl => ?_)
  have hl : lv_has ls 1 [(0, .ref (a0 0))] := hl
  have hx := hE.1
  have hb := hE.2.1
  rw [f_X8_keep_S] at hf
  refine lv_aload_n hx hb dX8_keep_0 rfl (lv_at hl 0 rfl) ?_
  refine g_get hE okX8 fl_X8_31 hP 0 rfl (v := .ref (a0 19)) rfl dX8_keep_1 ?_
  refine lv_ifnonnull hx hb dX8_keep_4 (tgt := 22) rfl ?_
  refine lv_aload_n hx hb dX8_keep_22 rfl (lv_at hl 0 rfl) ?_
  refine g_get hE okX8 fl_X8_35 hP 0 rfl (v := .ref (a0 44)) rfl dX8_keep_23 ?_
  refine lv_ifnonnull hx hb dX8_keep_26 (tgt := 40) rfl ?_
  refine lv_aload_n hx hb dX8_keep_40 rfl (lv_at hl 0 rfl) ?_
  refine g_get hE okX8 fl_X8_35 hP 0 rfl (v := .ref (a0 44)) rfl dX8_keep_41 ?_
  refine lv_aload_n hx hb dX8_keep_44 rfl (lv_at hl 0 rfl) ?_
  refine g_get hE okX8 fl_X8_31 hP 0 rfl (v := .ref (a0 19)) rfl dX8_keep_45 ?_
  obtain ⟨r1, hc2, hf⟩ := gbd hf
  refine gm_callV2r (As := [.ref (a0 19)]) (rest := []) (st1 := fun _ => []) (ws' := fun _ => (OuS_c g a0 (OuS_w_shelf s0 r1))) hE hl.1 ml_X8_314 (c_X1_copyFrom l g (fun k => a0 (k + 44)) (OuS_shelf s0) (fun k => a0 (k + 19)) (OuS_books s0) r1 hc2) hZ hP hD hS hA 19 44 0 69 rfl (fun _ => rfl) okX1 rfl rfl rfl (fun _ => rfl) ⟨rfl, rfl⟩ ⟨Nat.le_of_ble_eq_true rfl, Nat.le_of_ble_eq_true rfl⟩ ⟨Nat.le_refl _, Nat.le_refl _⟩ (Nat.le_of_ble_eq_true rfl) dX8_keep_48 (fun _ H locs hP hD hS => ?_)
  refine lv_aload_n hx hb dX8_keep_51 rfl (lv_at hl 0 rfl) ?_
  refine lv_iconst hx hb dX8_keep_52 kci_1 ?_
  refine g_put hE okX8 fl_X8_38 hP hD hS 0 rfl rfl rfl rfl (Nat.le_of_ble_eq_true rfl) (OuS_c g a0 (OuS_w_isKept (OuS_w_shelf s0 r1) (1 : Int32))) rfl dX8_keep_53 (fun H locs hP hD hS => ?_)
  refine lv_aload_n hx hb dX8_keep_56 rfl (lv_at hl 0 rfl) ?_
  refine lv_iconst hx hb dX8_keep_57 kci_1 ?_
  obtain ⟨r3, hc4, hf⟩ := gbd hf
  refine gm_callV1 (As := [.int (1 : Int32)]) (rest := []) (st1 := fun _ => [.int (r3.1)]) (ws' := fun _ => (OuS_c g a0 (r3.2))) hE hl.1 ml_X8_103 (c_X8_accept_S l g a0 (OuS_w_isKept (OuS_w_shelf s0 r1) (1 : Int32)) (1 : Int32) r3 hc4) hZ hP hD hS hA 0 69 rfl (fun _ => rfl) okX8 rfl rfl rfl (fun _ => rfl) ⟨rfl, rfl⟩ ⟨Nat.le_of_ble_eq_true rfl, Nat.le_of_ble_eq_true rfl⟩ ⟨Nat.le_refl _, Nat.le_refl _⟩ (Nat.le_of_ble_eq_true rfl) dX8_keep_58 (fun _ H locs hP hD hS => ?_)
  refine lv_if_eq hx hb dX8_keep_61 (tgt := 68) rfl (fun h5 => ?_) (fun h5 => ?_)
  · have hf := gif_t h5 hf
    refine lv_iconst hx hb dX8_keep_68 kci_0 ?_
    cases hf
    exact hq () (by decide) rfl hP hD hS dX8_keep_69
  · have hf := gif_f h5 hf
    refine lv_iconst hx hb dX8_keep_64 kci_1 ?_
    refine lv_goto hx hb dX8_keep_65 (tgt := 69) rfl ?_
    cases hf
    exact hq () (by decide) rfl hP hD hS dX8_keep_69
def f_X8_back_S (s0 : OuST) : Option (Int32 × OuST) :=
  if (OuS_isKept s0) = 0 then (f_X8_refuse_S s0 (1 : Int32) (0 : Int32)).bind fun r7 =>
  if (r7.1) = 0 then some ((0 : Int32), (r7.2))
  else some ((1 : Int32), (r7.2))
  else (f_X1_copyFrom (OuS_books s0) (OuS_shelf s0)).bind fun r2 =>
  (f_X8_accept_S (OuS_w_books s0 r2) (1 : Int32)).bind fun r4 =>
  if (r4.1) = 0 then some ((0 : Int32), (r4.2))
  else some ((1 : Int32), (r4.2))
abbrev rm_X8_back_S : Room := { frames := 4, cells := 0, slots := 0, locals := 103 }
set_option maxHeartbeats 4000000 in
set_option maxRecDepth 100000 in
theorem c_X8_back_S (l : Launch) (g : GK) (a0 : Nat → Nat) (s0 : OuST) (res : (Int32 × OuST)) (hf : f_X8_back_S s0 = some res) : gM l yX8_back cX8_back 1 (some .boolean) rm_X8_back_S g [.ref (a0 0)] (OuS_c g a0 s0) (fun _ : Unit => (some (.int (res.1)))) (fun _ => (OuS_c g a0 (res.2))) 0 0 := by
  refine gM_introZ RX8 (by decide) rfl (Nat.le_of_ble_eq_true rfl) (fun p e s m args below meth c Q H locs ls A hE hZ hA hP hD hS hq hl => ?_)
  have hl : lv_has ls 1 [(0, .ref (a0 0))] := hl
  have hx := hE.1
  have hb := hE.2.1
  rw [f_X8_back_S] at hf
  refine lv_aload_n hx hb dX8_back_0 rfl (lv_at hl 0 rfl) ?_
  refine g_get hE okX8 fl_X8_31 hP 0 rfl (v := .ref (a0 19)) rfl dX8_back_1 ?_
  refine lv_ifnull hx hb dX8_back_4 ?_
  refine lv_aload_n hx hb dX8_back_7 rfl (lv_at hl 0 rfl) ?_
  refine g_get hE okX8 fl_X8_35 hP 0 rfl (v := .ref (a0 44)) rfl dX8_back_8 ?_
  refine lv_ifnull hx hb dX8_back_11 ?_
  refine lv_aload_n hx hb dX8_back_14 rfl (lv_at hl 0 rfl) ?_
  refine g_get hE okX8 fl_X8_38 hP 0 rfl (v := .int (OuS_isKept s0)) rfl dX8_back_15 ?_
  refine lv_if_ne hx hb dX8_back_18 (tgt := 36) rfl (fun h1 => ?_) (fun h1 => ?_)
  · have hf := gif_f h1 hf
    refine lv_aload_n hx hb dX8_back_36 rfl (lv_at hl 0 rfl) ?_
    refine g_get hE okX8 fl_X8_31 hP 0 rfl (v := .ref (a0 19)) rfl dX8_back_37 ?_
    refine lv_aload_n hx hb dX8_back_40 rfl (lv_at hl 0 rfl) ?_
    refine g_get hE okX8 fl_X8_35 hP 0 rfl (v := .ref (a0 44)) rfl dX8_back_41 ?_
    obtain ⟨r2, hc3, hf⟩ := gbd hf
    refine gm_callV1 (As := [.ref (a0 44)]) (rest := []) (st1 := fun _ => []) (ws' := fun _ => (OuS_c g a0 (OuS_w_books s0 r2))) hE hl.1 ml_X8_314 (c_X1_copyFrom l g (fun k => a0 (k + 19)) (OuS_books s0) (fun k => a0 (k + 44)) (OuS_shelf s0) r2 hc3) hZ hP hD hS hA 19 69 rfl (fun _ => rfl) okX1 rfl rfl rfl (fun _ => rfl) ⟨rfl, rfl⟩ ⟨Nat.le_of_ble_eq_true rfl, Nat.le_of_ble_eq_true rfl⟩ ⟨Nat.le_refl _, Nat.le_refl _⟩ (Nat.le_of_ble_eq_true rfl) dX8_back_44 (fun _ H locs hP hD hS => ?_)
    refine lv_aload_n hx hb dX8_back_47 rfl (lv_at hl 0 rfl) ?_
    refine lv_iconst hx hb dX8_back_48 kci_1 ?_
    obtain ⟨r4, hc5, hf⟩ := gbd hf
    refine gm_callV1 (As := [.int (1 : Int32)]) (rest := []) (st1 := fun _ => [.int (r4.1)]) (ws' := fun _ => (OuS_c g a0 (r4.2))) hE hl.1 ml_X8_103 (c_X8_accept_S l g a0 (OuS_w_books s0 r2) (1 : Int32) r4 hc5) hZ hP hD hS hA 0 69 rfl (fun _ => rfl) okX8 rfl rfl rfl (fun _ => rfl) ⟨rfl, rfl⟩ ⟨Nat.le_of_ble_eq_true rfl, Nat.le_of_ble_eq_true rfl⟩ ⟨Nat.le_refl _, Nat.le_refl _⟩ (Nat.le_of_ble_eq_true rfl) dX8_back_49 (fun _ H locs hP hD hS => ?_)
    refine lv_if_eq hx hb dX8_back_52 (tgt := 59) rfl (fun h6 => ?_) (fun h6 => ?_)
    · have hf := gif_t h6 hf
      refine lv_iconst hx hb dX8_back_59 kci_0 ?_
      cases hf
      exact hq () (by decide) rfl hP hD hS dX8_back_60
    · have hf := gif_f h6 hf
      refine lv_iconst hx hb dX8_back_55 kci_1 ?_
      refine lv_goto hx hb dX8_back_56 (tgt := 60) rfl ?_
      cases hf
      exact hq () (by decide) rfl hP hD hS dX8_back_60
  · have hf := gif_t h1 hf
    refine lv_aload_n hx hb dX8_back_21 rfl (lv_at hl 0 rfl) ?_
    refine lv_iconst hx hb dX8_back_22 kci_1 ?_
    refine lv_iconst hx hb dX8_back_23 kci_0 ?_
    obtain ⟨r7, hc8, hf⟩ := gbd hf
    refine gm_callV1 (As := [.int (1 : Int32), .int (0 : Int32)]) (rest := []) (st1 := fun _ => [.int (r7.1)]) (ws' := fun _ => (OuS_c g a0 (r7.2))) hE hl.1 ml_X8_69 (c_X8_refuse_S l g a0 s0 (1 : Int32) (0 : Int32) r7 hc8) hZ hP hD hS hA 0 69 rfl (fun _ => rfl) okX8 rfl rfl rfl (fun _ => rfl) ⟨rfl, rfl⟩ ⟨Nat.le_of_ble_eq_true rfl, Nat.le_of_ble_eq_true rfl⟩ ⟨Nat.le_refl _, Nat.le_refl _⟩ (Nat.le_of_ble_eq_true rfl) dX8_back_24 (fun _ H locs hP hD hS => ?_)
    refine lv_if_eq hx hb dX8_back_27 (tgt := 34) rfl (fun h9 => ?_) (fun h9 => ?_)
    · have hf := gif_t h9 hf
      refine lv_iconst hx hb dX8_back_34 kci_0 ?_
      cases hf
      exact hq () (by decide) rfl hP hD hS dX8_back_35
    · have hf := gif_f h9 hf
      refine lv_iconst hx hb dX8_back_30 kci_1 ?_
      refine lv_goto hx hb dX8_back_31 (tgt := 35) rfl ?_
      cases hf
      exact hq () (by decide) rfl hP hD hS dX8_back_35
