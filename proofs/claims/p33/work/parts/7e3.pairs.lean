/-! the pairs of calls of the law -/
section
variable {n m F : Nat} {L : Nat × Nat} {h : Hp} {a1 a2 a3 a4 a5 : Int32}
theorem pr_told (hF : 2000000 ≤ F) (I : SI n m L h) : Sf (fun h => sX11_told F h n a1) (fun h => sX15_told F h m a1) h (SI n m (L.1 + 1, L.2 + 8)) := by
  have hF7 : 700000 ≤ F := by omega
  exact st_tt (d := (1, 8)) I (fun hp T r I M => by first | exact cw_told hF7 hp T r I M | exact cw_told hF7 T r I M | exact cw_told hp T r I M | exact cw_told T r I M | exact cw_told hF hp T r I M) (fun hp T r P M => by first | exact rw_told hF7 hp T r P M | exact rw_told hF7 T r P M | exact rw_told hF hp T r P M)
theorem pr_out (hF : 2000000 ≤ F) (I : SI n m L h) : Sf (fun h => sX11_out h n a1) (fun h => sX15_out h m a1) h (SI n m L) := by
  have hF7 : 700000 ≤ F := by omega
  exact st_tt (d := (0, 0)) I (fun hp T r I M => by first | exact cw_out hF7 hp T r I M | exact cw_out hF7 T r I M | exact cw_out hp T r I M | exact cw_out T r I M | exact cw_out hF hp T r I M) (fun hp T r P M => by first | exact rw_out hF7 hp T r P M | exact rw_out hF7 T r P M | exact rw_out hF hp T r P M)
theorem pr_position (hF : 2000000 ≤ F) (I : SI n m L h) : Sf (fun h => sX11_position F h n) (fun h => sX15_position F h m) h (SI n m L) := by
  have hF7 : 700000 ≤ F := by omega
  exact st_zz I (fun hp T r I M => by first | exact cw_position hF7 hp T r I M | exact cw_position hF7 T r I M | exact cw_position hp T r I M | exact cw_position T r I M | exact cw_position hF hp T r I M) (fun hp T r P M => by first | exact rw_position hF7 hp T r P M | exact rw_position hF7 T r P M | exact rw_position hF hp T r P M)
theorem pr_drop (hF : 2000000 ≤ F) (I : SI n m L h) : Sf (fun h => sX11_drop h n a1) (fun h => sX15_drop h m a1) h (SI n m L) := by
  have hF7 : 700000 ≤ F := by omega
  exact st_tt (d := (0, 0)) I (fun hp T r I M => by first | exact cw_drop hF7 hp T r I M | exact cw_drop hF7 T r I M | exact cw_drop hp T r I M | exact cw_drop T r I M | exact cw_drop hF hp T r I M) (fun hp T r P M => by first | exact rw_drop hF7 hp T r P M | exact rw_drop hF7 T r P M | exact rw_drop hF hp T r P M)
theorem pr_write (hF : 2000000 ≤ F) (I : SI n m L h) : Sf (fun h => sX11_write F h n a1) (fun h => sX15_write F h m a1) h (SI n m L) := by
  have hF7 : 700000 ≤ F := by omega
  exact st_tt (d := (0, 0)) I (fun hp T r I M => by first | exact cw_write hF7 hp T r I M | exact cw_write hF7 T r I M | exact cw_write hp T r I M | exact cw_write T r I M | exact cw_write hF hp T r I M) (fun hp T r P M => by first | exact rw_write hF7 hp T r P M | exact rw_write hF7 T r P M | exact rw_write hF hp T r P M)
theorem pr_same (hF : 2000000 ≤ F) (I : SI n m L h) : Sf (fun h => sX11_same F h n a1 a2) (fun h => sX15_same F h m a1 a2) h (SI n m L) := by
  have hF7 : 700000 ≤ F := by omega
  exact st_tt (d := (0, 0)) I (fun hp T r I M => by first | exact cw_same hF7 hp T r I M | exact cw_same hF7 T r I M | exact cw_same hp T r I M | exact cw_same T r I M | exact cw_same hF hp T r I M) (fun hp T r P M => by first | exact rw_same hF7 hp T r P M | exact rw_same hF7 T r P M | exact rw_same hF hp T r P M)
theorem pr_at (hF : 2000000 ≤ F) (I : SI n m L h) : Sf (fun h => sX11_at h n a1 a2) (fun h => sX15_at h m a1 a2) h (SI n m L) := by
  have hF7 : 700000 ≤ F := by omega
  exact st_tt (d := (0, 0)) I (fun hp T r I M => by first | exact cw_at hF7 hp T r I M | exact cw_at hF7 T r I M | exact cw_at hp T r I M | exact cw_at T r I M | exact cw_at hF hp T r I M) (fun hp T r P M => by first | exact rw_at hF7 hp T r P M | exact rw_at hF7 T r P M | exact rw_at hF hp T r P M)
theorem pr_figure (hF : 2000000 ≤ F) (I : SI n m L h) : Sf (fun h => sX11_figure F h n a1 a2) (fun h => sX15_figure F h m a1 a2) h (SI n m (L.1 + 1, L.2 + 8)) := by
  have hF7 : 700000 ≤ F := by omega
  exact st_tt (d := (1, 8)) I (fun hp T r I M => by first | exact cw_figure hF7 hp T r I M | exact cw_figure hF7 T r I M | exact cw_figure hp T r I M | exact cw_figure T r I M | exact cw_figure hF hp T r I M) (fun hp T r P M => by first | exact rw_figure hF7 hp T r P M | exact rw_figure hF7 T r P M | exact rw_figure hF hp T r P M)
theorem pr_attacked (hF : 2000000 ≤ F) (I : SI n m L h) : Sf (fun h => sX11_attacked F h n a1 a2 a3) (fun h => sX15_attacked F h m a1 a2 a3) h (SI n m L) := by
  have hF7 : 700000 ≤ F := by omega
  exact st_tt (d := (0, 0)) I (fun hp T r I M => by first | exact cw_attacked hF7 hp T r I M | exact cw_attacked hF7 T r I M | exact cw_attacked hp T r I M | exact cw_attacked T r I M | exact cw_attacked hF hp T r I M) (fun hp T r P M => by first | exact rw_attacked hF7 hp T r P M | exact rw_attacked hF7 T r P M | exact rw_attacked hF hp T r P M)
theorem pr_moves (hF : 2000000 ≤ F) (I : SI n m L h) : Sf (fun h => sX11_moves F h n a1) (fun h => sX15_moves F h m a1) h (SI n m L) := by
  have hF7 : 700000 ≤ F := by omega
  exact st_tt (d := (0, 0)) I (fun hp T r I M => by first | exact cw_moves hF7 hp T r I M | exact cw_moves hF7 T r I M | exact cw_moves hp T r I M | exact cw_moves T r I M | exact cw_moves hF hp T r I M) (fun hp T r P M => by first | exact rw_moves hF7 hp T r P M | exact rw_moves hF7 T r P M | exact rw_moves hF hp T r P M)
theorem pr_move (hF : 2000000 ≤ F) (I : SI n m L h) : Sf (fun h => sX11_move F h n a1 a2 a3) (fun h => sX15_move F h m a1 a2 a3) h (SI n m L) := by
  have hF7 : 700000 ≤ F := by omega
  exact st_tt (d := (0, 0)) I (fun hp T r I M => by first | exact cw_move hF7 hp T r I M | exact cw_move hF7 T r I M | exact cw_move hp T r I M | exact cw_move T r I M | exact cw_move hF hp T r I M) (fun hp T r P M => by first | exact rw_move hF7 hp T r P M | exact rw_move hF7 T r P M | exact rw_move hF hp T r P M)
theorem pr_go (hF : 2000000 ≤ F) (I : SI n m L h) : Sf (fun h => sX11_go F h n a1 a2) (fun h => sX15_go F h m a1 a2) h (SI n m L) := by
  have hF7 : 700000 ≤ F := by omega
  exact st_tt (d := (0, 0)) I (fun hp T r I M => by first | exact cw_go hF7 hp T r I M | exact cw_go hF7 T r I M | exact cw_go hp T r I M | exact cw_go T r I M | exact cw_go hF hp T r I M) (fun hp T r P M => by first | exact rw_go hF7 hp T r P M | exact rw_go hF7 T r P M | exact rw_go hF hp T r P M)
theorem pr_rows (hF : 2000000 ≤ F) (I : SI n m L h) : Sf (fun h => sX11_rows F h n a1 a2) (fun h => sX15_rows F h m a1 a2) h (SI n m L) := by
  have hF7 : 700000 ≤ F := by omega
  exact st_tt (d := (0, 0)) I (fun hp T r I M => by first | exact cw_rows hF7 hp T r I M | exact cw_rows hF7 T r I M | exact cw_rows hp T r I M | exact cw_rows T r I M | exact cw_rows hF hp T r I M) (fun hp T r P M => by first | exact rw_rows hF7 hp T r P M | exact rw_rows hF7 T r P M | exact rw_rows hF hp T r P M)
theorem pr_ended (hF : 2000000 ≤ F) (I : SI n m L h) : Sf (fun h => sX11_ended F h n a1) (fun h => sX15_ended F h m a1) h (SI n m L) := by
  have hF7 : 700000 ≤ F := by omega
  exact st_tt (d := (0, 0)) I (fun hp T r I M => by first | exact cw_ended hF7 hp T r I M | exact cw_ended hF7 T r I M | exact cw_ended hp T r I M | exact cw_ended T r I M | exact cw_ended hF hp T r I M) (fun hp T r P M => by first | exact rw_ended hF7 hp T r P M | exact rw_ended hF7 T r P M | exact rw_ended hF hp T r P M)
theorem pr_result (hF : 2000000 ≤ F) (I : SI n m L h) : Sf (fun h => sX11_result F h n a1) (fun h => sX15_result F h m a1) h (SI n m L) := by
  have hF7 : 700000 ≤ F := by omega
  exact st_tt (d := (0, 0)) I (fun hp T r I M => by first | exact cw_result hF7 hp T r I M | exact cw_result hF7 T r I M | exact cw_result hp T r I M | exact cw_result T r I M | exact cw_result hF hp T r I M) (fun hp T r P M => by first | exact rw_result hF7 hp T r P M | exact rw_result hF7 T r P M | exact rw_result hF hp T r P M)
theorem pr_say (hF : 2000000 ≤ F) (I : SI n m L h) : Sf (fun h => sX11_say F h n a1 a2) (fun h => sX15_say_ F h m a1 a2) h (SI n m L) := by
  have hF7 : 700000 ≤ F := by omega
  exact st_tt (d := (0, 0)) I (fun hp T r I M => by first | exact cw_say hF7 hp T r I M | exact cw_say hF7 T r I M | exact cw_say hp T r I M | exact cw_say T r I M | exact cw_say hF hp T r I M) (fun hp T r P M => by first | exact rw_say hF7 hp T r P M | exact rw_say hF7 T r P M | exact rw_say hF hp T r P M)
theorem pr_hear (hF : 2000000 ≤ F) (I : SI n m L h) : Sf (fun h => sX11_hear F h n a1) (fun h => sX15_hear F h m a1) h (SI n m L) := by
  have hF7 : 700000 ≤ F := by omega
  exact st_zz I (fun hp T r I M => by first | exact cw_hear hF7 hp T r I M | exact cw_hear hF7 T r I M | exact cw_hear hp T r I M | exact cw_hear T r I M | exact cw_hear hF hp T r I M) (fun hp T r P M => by first | exact rw_hear hF7 hp T r P M | exact rw_hear hF7 T r P M | exact rw_hear hF hp T r P M)
theorem pr_start (hF : 2000000 ≤ F) (I : SI n m L h) : Sf (fun h => sX11_start F h n a1 a2) (fun h => sX15_start h m a1 a2) h (SI n m L) := by
  have hF7 : 700000 ≤ F := by omega
  exact st_tt (d := (0, 0)) I (fun hp T r I M => by first | exact cw_start hF7 hp T r I M | exact cw_start hF7 T r I M | exact cw_start hp T r I M | exact cw_start T r I M | exact cw_start hF hp T r I M) (fun hp T r P M => by first | exact rw_start hF7 hp T r P M | exact rw_start hF7 T r P M | exact rw_start hF hp T r P M)
theorem pr_add (hF : 2000000 ≤ F) (I : SI n m L h) : Sf (fun h => sX11_add F h n a1 a2) (fun h => sX15_add F h m a1 a2) h (SI n m L) := by
  have hF7 : 700000 ≤ F := by omega
  exact st_tt (d := (0, 0)) I (fun hp T r I M => by first | exact cw_add hF7 hp T r I M | exact cw_add hF7 T r I M | exact cw_add hp T r I M | exact cw_add T r I M | exact cw_add hF hp T r I M) (fun hp T r P M => by first | exact rw_add hF7 hp T r P M | exact rw_add hF7 T r P M | exact rw_add hF hp T r P M)
theorem pr_back (hF : 2000000 ≤ F) (I : SI n m L h) : Sf (fun h => sX11_back h n a1) (fun h => sX15_back h m a1) h (SI n m L) := by
  have hF7 : 700000 ≤ F := by omega
  exact st_tt (d := (0, 0)) I (fun hp T r I M => by first | exact cw_back hF7 hp T r I M | exact cw_back hF7 T r I M | exact cw_back hp T r I M | exact cw_back T r I M | exact cw_back hF hp T r I M) (fun hp T r P M => by first | exact rw_back hF7 hp T r P M | exact rw_back hF7 T r P M | exact rw_back hF hp T r P M)
theorem pr_game (hF : 2000000 ≤ F) (I : SI n m L h) : Sf (fun h => sX11_game F h n a1 a2) (fun h => sX15_game F h m a1 a2) h (SI n m L) := by
  have hF7 : 700000 ≤ F := by omega
  exact st_tt (d := (0, 0)) I (fun hp T r I M => by first | exact cw_game hF7 hp T r I M | exact cw_game hF7 T r I M | exact cw_game hp T r I M | exact cw_game T r I M | exact cw_game hF hp T r I M) (fun hp T r P M => by first | exact rw_game hF7 hp T r P M | exact rw_game hF7 T r P M | exact rw_game hF hp T r P M)
theorem pr_played (hF : 2000000 ≤ F) (I : SI n m L h) : Sf (fun h => sX11_played h n a1 a2) (fun h => sX15_played h m a1 a2) h (SI n m L) := by
  have hF7 : 700000 ≤ F := by omega
  exact st_tt (d := (0, 0)) I (fun hp T r I M => by first | exact cw_played hF7 hp T r I M | exact cw_played hF7 T r I M | exact cw_played hp T r I M | exact cw_played T r I M | exact cw_played hF hp T r I M) (fun hp T r P M => by first | exact rw_played hF7 hp T r P M | exact rw_played hF7 T r P M | exact rw_played hF hp T r P M)
theorem pr_now (hF : 2000000 ≤ F) (I : SI n m L h) : Sf (fun h => sX11_now F h n a1) (fun h => sX15_now F h m a1) h (SI n m L) := by
  have hF7 : 700000 ≤ F := by omega
  exact st_tt (d := (0, 0)) I (fun hp T r I M => by first | exact cw_now hF7 hp T r I M | exact cw_now hF7 T r I M | exact cw_now hp T r I M | exact cw_now T r I M | exact cw_now hF hp T r I M) (fun hp T r P M => by first | exact rw_now hF7 hp T r P M | exact rw_now hF7 T r P M | exact rw_now hF hp T r P M)
theorem pr_book (hF : 2000000 ≤ F) (I : SI n m L h) : Sf (fun h => sX11_book F h n a1 a2) (fun h => sX15_book F h m a1 a2) h (SI n m L) := by
  have hF7 : 700000 ≤ F := by omega
  exact st_tt (d := (0, 0)) I (fun hp T r I M => by first | exact cw_book hF7 hp T r I M | exact cw_book hF7 T r I M | exact cw_book hp T r I M | exact cw_book T r I M | exact cw_book hF hp T r I M) (fun hp T r P M => by first | exact rw_book hF7 hp T r P M | exact rw_book hF7 T r P M | exact rw_book hF hp T r P M)
theorem pr_sees (hF : 2000000 ≤ F) (I : SI n m L h) : Sf (fun h => sX11_sees F h n a1 a2 a3) (fun h => sX15_sees F h m a1 a2 a3) h (SI n m L) := by
  have hF7 : 700000 ≤ F := by omega
  exact st_tt (d := (0, 0)) I (fun hp T r I M => by first | exact cw_sees hF7 hp T r I M | exact cw_sees hF7 T r I M | exact cw_sees hp T r I M | exact cw_sees T r I M | exact cw_sees hF hp T r I M) (fun hp T r P M => by first | exact rw_sees hF7 hp T r P M | exact rw_sees hF7 T r P M | exact rw_sees hF hp T r P M)
theorem pr_view (hF : 2000000 ≤ F) (I : SI n m L h) : Sf (fun h => sX11_view F h n a1 a2) (fun h => sX15_view F h m a1 a2) h (SI n m L) := by
  have hF7 : 700000 ≤ F := by omega
  exact st_tt (d := (0, 0)) I (fun hp T r I M => by first | exact cw_view hF7 hp T r I M | exact cw_view hF7 T r I M | exact cw_view hp T r I M | exact cw_view T r I M | exact cw_view hF hp T r I M) (fun hp T r P M => by first | exact rw_view hF7 hp T r P M | exact rw_view hF7 T r P M | exact rw_view hF hp T r P M)
theorem pr_before (hF : 2000000 ≤ F) (I : SI n m L h) : Sf (fun h => sX11_before F h n a1) (fun h => sX15_before F h m a1) h (SI n m L) := by
  have hF7 : 700000 ≤ F := by omega
  exact st_tt (d := (0, 0)) I (fun hp T r I M => by first | exact cw_before hF7 hp T r I M | exact cw_before hF7 T r I M | exact cw_before hp T r I M | exact cw_before T r I M | exact cw_before hF hp T r I M) (fun hp T r P M => by first | exact rw_before hF7 hp T r P M | exact rw_before hF7 T r P M | exact rw_before hF hp T r P M)
theorem pr_beforeAt (hF : 2000000 ≤ F) (I : SI n m L h) : Sf (fun h => sX11_beforeAt F h n a1) (fun h => sX15_beforeAt F h m a1) h (SI n m L) := by
  have hF7 : 700000 ≤ F := by omega
  exact st_tt (d := (0, 0)) I (fun hp T r I M => by first | exact cw_beforeAt hF7 hp T r I M | exact cw_beforeAt hF7 T r I M | exact cw_beforeAt hp T r I M | exact cw_beforeAt T r I M | exact cw_beforeAt hF hp T r I M) (fun hp T r P M => by first | exact rw_beforeAt hF7 hp T r P M | exact rw_beforeAt hF7 T r P M | exact rw_beforeAt hF hp T r P M)
theorem pr_solve (hF : 2000000 ≤ F) (I : SI n m L h) : Sf (fun h => sX11_solve F h n) (fun h => sX15_solve F h m) h (SI n m L) := by
  have hF7 : 700000 ≤ F := by omega
  exact st_zz I (fun hp T r I M => by first | exact cw_solve hF7 hp T r I M | exact cw_solve hF7 T r I M | exact cw_solve hp T r I M | exact cw_solve T r I M | exact cw_solve hF hp T r I M) (fun hp T r P M => by first | exact rw_solve hF7 hp T r P M | exact rw_solve hF7 T r P M | exact rw_solve hF hp T r P M)
theorem pr_worth (hF : 2000000 ≤ F) (I : SI n m L h) : Sf (fun h => sX11_worth F h n a1) (fun h => sX15_worth F h m a1) h (SI n m L) := by
  have hF7 : 700000 ≤ F := by omega
  exact st_tt (d := (0, 0)) I (fun hp T r I M => by first | exact cw_worth hF7 hp T r I M | exact cw_worth hF7 T r I M | exact cw_worth hp T r I M | exact cw_worth T r I M | exact cw_worth hF hp T r I M) (fun hp T r P M => by first | exact rw_worth hF7 hp T r P M | exact rw_worth hF7 T r P M | exact rw_worth hF hp T r P M)
theorem pr_tally (hF : 2000000 ≤ F) (I : SI n m L h) : Sf (fun h => sX11_tally F h n a1 a2) (fun h => sX15_tally F h m a1 a2) h (SI n m L) := by
  have hF7 : 700000 ≤ F := by omega
  exact st_tt (d := (0, 0)) I (fun hp T r I M => by first | exact cw_tally hF7 hp T r I M | exact cw_tally hF7 T r I M | exact cw_tally hp T r I M | exact cw_tally T r I M | exact cw_tally hF hp T r I M) (fun hp T r P M => by first | exact rw_tally hF7 hp T r P M | exact rw_tally hF7 T r P M | exact rw_tally hF hp T r P M)
theorem pr_problem (hF : 2000000 ≤ F) (I : SI n m L h) : Sf (fun h => sX11_problem F h n a1 a2 a3 a4) (fun h => sX15_problem F h m a1 a2 a3 a4) h (SI n m L) := by
  have hF7 : 700000 ≤ F := by omega
  exact st_tt (d := (0, 0)) I (fun hp T r I M => by first | exact cw_problem hF7 hp T r I M | exact cw_problem hF7 T r I M | exact cw_problem hp T r I M | exact cw_problem T r I M | exact cw_problem hF hp T r I M) (fun hp T r P M => by first | exact rw_problem hF7 hp T r P M | exact rw_problem hF7 T r P M | exact rw_problem hF hp T r P M)
theorem pr_key (hF : 2000000 ≤ F) (I : SI n m L h) : Sf (fun h => sX11_key h n a1) (fun h => sX15_key h m a1) h (SI n m L) := by
  have hF7 : 700000 ≤ F := by omega
  exact st_tt (d := (0, 0)) I (fun hp T r I M => by first | exact cw_key hF7 hp T r I M | exact cw_key hF7 T r I M | exact cw_key hp T r I M | exact cw_key T r I M | exact cw_key hF hp T r I M) (fun hp T r P M => by first | exact rw_key hF7 hp T r P M | exact rw_key hF7 T r P M | exact rw_key hF hp T r P M)
theorem pr_refutes (hF : 2000000 ≤ F) (I : SI n m L h) : Sf (fun h => sX11_refutes h n a1) (fun h => sX15_refutes F h m a1) h (SI n m L) := by
  have hF7 : 700000 ≤ F := by omega
  exact st_tt (d := (0, 0)) I (fun hp T r I M => by first | exact cw_refutes hF7 hp T r I M | exact cw_refutes hF7 T r I M | exact cw_refutes hp T r I M | exact cw_refutes T r I M | exact cw_refutes hF hp T r I M) (fun hp T r P M => by first | exact rw_refutes hF7 hp T r P M | exact rw_refutes hF7 T r P M | exact rw_refutes hF hp T r P M)
end
