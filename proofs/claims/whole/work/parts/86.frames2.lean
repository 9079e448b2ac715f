abbrev wr_X12_office : List (Nat × Option Nat) := [(0, some 0), (0, some 7), (1, none), (2, none), (3, none)]
abbrev wr_X12_strap : List (Nat × Option Nat) := [(0, some 0), (0, some 8), (4, none), (5, none)]
abbrev wr_X12_unstrap : List (Nat × Option Nat) := [(0, some 0), (0, some 8)]
abbrev wr_X12_against : List (Nat × Option Nat) := []
abbrev wr_X12_isLawful : List (Nat × Option Nat) := []
abbrev wr_X12_may : List (Nat × Option Nat) := [(0, some 0)]
abbrev wr_X12_proof : List (Nat × Option Nat) := [(0, some 0)]
abbrev wr_X12_rows : List (Nat × Option Nat) := [(0, some 0)]
abbrev wr_X12_isEnough : List (Nat × Option Nat) := []
abbrev wr_X12_need : List (Nat × Option Nat) := [(0, some 0), (6, none)]
abbrev wr_X12_orders : List (Nat × Option Nat) := [(0, some 0)]
abbrev wr_X12_bytesIn : List (Nat × Option Nat) := []
abbrev wr_X12_put : List (Nat × Option Nat) := [(0, some 15), (7, none)]
abbrev wr_X12_feed : List (Nat × Option Nat) := [(0, some 0), (0, some 15), (7, none)]
abbrev wr_X12_end : List (Nat × Option Nat) := [(0, some 0), (0, some 15)]
abbrev wr_X12_look : List (Nat × Option Nat) := [(0, some 20)]
abbrev wr_X12_fails : List (Nat × Option Nat) := [(0, some 21)]
abbrev wr_X12_goesIn : List (Nat × Option Nat) := [(0, some 20), (0, some 21), (0, some 22)]
abbrev wr_X12_takes : List (Nat × Option Nat) := [(0, some 20), (0, some 21)]
abbrev wr_X12_isDigit : List (Nat × Option Nat) := []
abbrev wr_X12_sum : List (Nat × Option Nat) := [(0, some 20), (0, some 21), (0, some 22)]
abbrev wr_X12_term : List (Nat × Option Nat) := [(0, some 20), (0, some 21), (0, some 22)]
abbrev wr_X12_atom : List (Nat × Option Nat) := [(0, some 20), (0, some 21), (0, some 22)]
abbrev wr_X12_compares : List (Nat × Option Nat) := [(0, some 20), (0, some 21), (0, some 22)]
abbrev wr_X12_unit : List (Nat × Option Nat) := [(0, some 20), (0, some 21), (0, some 22)]
abbrev wr_X12_part : List (Nat × Option Nat) := [(0, some 20), (0, some 21), (0, some 22)]
abbrev wr_X12_condition : List (Nat × Option Nat) := [(0, some 20), (0, some 21), (0, some 22)]
abbrev wr_X12_clause : List (Nat × Option Nat) := [(0, some 20), (0, some 21), (0, some 22), (0, some 24), (0, some 27)]
abbrev wr_X12_goThrough : List (Nat × Option Nat) := [(0, some 14), (0, some 18), (0, some 19), (0, some 20), (0, some 21), (0, some 22), (0, some 23), (0, some 24), (0, some 27)]
abbrev wr_X12_fault : List (Nat × Option Nat) := [(0, some 0), (0, some 14), (0, some 18), (0, some 19), (0, some 20), (0, some 21), (0, some 22), (0, some 23), (0, some 24), (0, some 27)]
abbrev wr_X12_law : List (Nat × Option Nat) := [(0, some 0), (0, some 14), (0, some 15), (0, some 16), (0, some 18), (0, some 19), (0, some 20), (0, some 21), (0, some 22), (0, some 23), (0, some 24), (0, some 27), (8, none), (9, none)]
abbrev wr_X12_use : List (Nat × Option Nat) := [(0, some 0), (0, some 17)]
abbrev wr_X12_machine : List (Nat × Option Nat) := [(0, some 0), (0, some 32), (11, none)]
abbrev wr_X12_votersBy : List (Nat × Option Nat) := [(0, some 14), (0, some 18), (0, some 19), (0, some 20), (0, some 21), (0, some 22), (0, some 23), (0, some 24), (0, some 27), (10, none)]
abbrev wr_X12_voters : List (Nat × Option Nat) := [(0, some 0), (0, some 14), (0, some 18), (0, some 19), (0, some 20), (0, some 21), (0, some 22), (0, some 23), (0, some 24), (0, some 27), (10, none)]
abbrev wr_X12_agree : List (Nat × Option Nat) := [(0, some 0), (0, some 14), (0, some 18), (0, some 19), (0, some 20), (0, some 21), (0, some 22), (0, some 23), (0, some 24), (0, some 27), (10, none)]
abbrev wr_X12_show : List (Nat × Option Nat) := [(0, some 0), (12, none)]
abbrev wr_X12_trouble : List (Nat × Option Nat) := [(0, some 0), (15, none), (16, none), (17, none), (18, none)]
abbrev wr_X12_lay : List (Nat × Option Nat) := [(0, some 42), (0, some 43), (19, none), (20, none), (21, none), (23, none)]
abbrev wr_X12_shown : List (Nat × Option Nat) := []
abbrev wr_X12_isTold : List (Nat × Option Nat) := []
abbrev wr_X12_greatest : List (Nat × Option Nat) := []
abbrev wr_X12_sumOfLeast : List (Nat × Option Nat) := []
abbrev wr_X12_boundOf : List (Nat × Option Nat) := []
abbrev wr_X12_fits : List (Nat × Option Nat) := [(0, some 14), (0, some 18), (0, some 19), (0, some 20), (0, some 21), (0, some 22), (0, some 23), (0, some 24), (0, some 27), (0, some 42), (0, some 43), (0, some 44), (10, none), (19, none), (20, none), (21, none), (22, none), (23, none)]
abbrev wr_X12_fitting : List (Nat × Option Nat) := [(0, some 0), (0, some 14), (0, some 18), (0, some 19), (0, some 20), (0, some 21), (0, some 22), (0, some 23), (0, some 24), (0, some 27), (0, some 42), (0, some 43), (0, some 44), (10, none), (19, none), (20, none), (21, none), (22, none), (23, none)]
abbrev wr_X12_fewestOf : List (Nat × Option Nat) := [(0, some 14), (0, some 18), (0, some 19), (0, some 20), (0, some 21), (0, some 22), (0, some 23), (0, some 24), (0, some 27), (0, some 42), (0, some 43), (0, some 44), (10, none), (19, none), (20, none), (21, none), (22, none), (23, none)]
abbrev wr_X12_sets : List (Nat × Option Nat) := [(0, some 0), (0, some 14), (0, some 18), (0, some 19), (0, some 20), (0, some 21), (0, some 22), (0, some 23), (0, some 24), (0, some 27), (0, some 42), (0, some 43), (0, some 44), (10, none), (19, none), (20, none), (21, none), (22, none), (23, none)]
abbrev wr_X12_counts : List (Nat × Option Nat) := [(0, some 14), (0, some 18), (0, some 19), (0, some 20), (0, some 21), (0, some 22), (0, some 23), (0, some 24), (0, some 27), (0, some 42), (0, some 43), (0, some 44), (10, none), (19, none), (20, none), (21, none), (22, none), (23, none)]
abbrev wr_X12_spanOf : List (Nat × Option Nat) := [(0, some 14), (0, some 18), (0, some 19), (0, some 20), (0, some 21), (0, some 22), (0, some 23), (0, some 24), (0, some 27), (0, some 42), (0, some 43), (0, some 44), (10, none), (19, none), (20, none), (21, none), (22, none), (23, none)]
abbrev wr_X12_isOfOffice : List (Nat × Option Nat) := []
abbrev wr_X12_span : List (Nat × Option Nat) := [(0, some 0), (0, some 14), (0, some 18), (0, some 19), (0, some 20), (0, some 21), (0, some 22), (0, some 23), (0, some 24), (0, some 27), (0, some 42), (0, some 43), (0, some 44), (10, none), (19, none), (20, none), (21, none), (22, none), (23, none)]
abbrev wr_X12_open : List (Nat × Option Nat) := [(0, some 0), (0, some 14), (0, some 18), (0, some 19), (0, some 20), (0, some 21), (0, some 22), (0, some 23), (0, some 24), (0, some 27), (0, some 42), (0, some 43), (0, some 44), (10, none), (13, none), (19, none), (20, none), (21, none), (22, none), (23, none)]
abbrev wr_X12_total : List (Nat × Option Nat) := [(0, some 0), (0, some 14), (0, some 18), (0, some 19), (0, some 20), (0, some 21), (0, some 22), (0, some 23), (0, some 24), (0, some 27), (0, some 42), (0, some 43), (0, some 44), (10, none), (19, none), (20, none), (21, none), (22, none), (23, none)]
abbrev wr_X12_aheadNow : List (Nat × Option Nat) := []
abbrev wr_X12_aheadIn : List (Nat × Option Nat) := [(0, some 14), (0, some 18), (0, some 19), (0, some 20), (0, some 21), (0, some 22), (0, some 23), (0, some 24), (0, some 27), (0, some 42), (0, some 43), (0, some 44), (10, none), (19, none), (20, none), (21, none), (22, none), (23, none)]
abbrev wr_X12_aheadOf : List (Nat × Option Nat) := [(0, some 14), (0, some 18), (0, some 19), (0, some 20), (0, some 21), (0, some 22), (0, some 23), (0, some 24), (0, some 27), (0, some 42), (0, some 43), (0, some 44), (10, none), (19, none), (20, none), (21, none), (22, none), (23, none)]
abbrev wr_X12_ahead : List (Nat × Option Nat) := [(0, some 0), (0, some 14), (0, some 18), (0, some 19), (0, some 20), (0, some 21), (0, some 22), (0, some 23), (0, some 24), (0, some 27), (0, some 42), (0, some 43), (0, some 44), (10, none), (19, none), (20, none), (21, none), (22, none), (23, none)]
abbrev wr_X12_isFound : List (Nat × Option Nat) := [(0, some 14), (0, some 18), (0, some 19), (0, some 20), (0, some 21), (0, some 22), (0, some 23), (0, some 24), (0, some 27), (0, some 42), (0, some 43), (0, some 44), (10, none), (19, none), (20, none), (21, none), (22, none), (23, none)]
abbrev wr_X12_areFound : List (Nat × Option Nat) := [(0, some 14), (0, some 18), (0, some 19), (0, some 20), (0, some 21), (0, some 22), (0, some 23), (0, some 24), (0, some 27), (0, some 42), (0, some 43), (0, some 44), (10, none), (19, none), (20, none), (21, none), (22, none), (23, none)]
abbrev wr_X12_isWinner : List (Nat × Option Nat) := [(0, some 14), (0, some 18), (0, some 19), (0, some 20), (0, some 21), (0, some 22), (0, some 23), (0, some 24), (0, some 27), (0, some 42), (0, some 43), (0, some 44), (10, none), (19, none), (20, none), (21, none), (22, none), (23, none)]
abbrev wr_X12_wins : List (Nat × Option Nat) := [(0, some 0), (0, some 14), (0, some 18), (0, some 19), (0, some 20), (0, some 21), (0, some 22), (0, some 23), (0, some 24), (0, some 27), (0, some 42), (0, some 43), (0, some 44), (10, none), (19, none), (20, none), (21, none), (22, none), (23, none)]
abbrev wr_X12_cost : List (Nat × Option Nat) := [(0, some 0), (14, none)]
abbrev wr_X12_layGains : List (Nat × Option Nat) := [(0, some 14), (0, some 18), (0, some 19), (0, some 20), (0, some 21), (0, some 22), (0, some 23), (0, some 24), (0, some 27), (0, some 42), (0, some 43), (0, some 44), (10, none), (19, none), (20, none), (21, none), (22, none), (23, none), (24, none), (25, none)]
abbrev wr_X12_winsWith : List (Nat × Option Nat) := []
abbrev wr_X12_costOf : List (Nat × Option Nat) := []
abbrev wr_X12_till : List (Nat × Option Nat) := [(0, some 0), (0, some 14), (0, some 18), (0, some 19), (0, some 20), (0, some 21), (0, some 22), (0, some 23), (0, some 24), (0, some 27), (0, some 42), (0, some 43), (0, some 44), (10, none), (19, none), (20, none), (21, none), (22, none), (23, none), (24, none), (25, none)]
abbrev wr_X12_test : List (Nat × Option Nat) := [(0, some 0), (0, some 49), (26, none), (27, none)]
abbrev wr_X12_isLetNow : List (Nat × Option Nat) := []
abbrev wr_X12_behind : List (Nat × Option Nat) := []
abbrev wr_X12_seesOne : List (Nat × Option Nat) := [(0, some 42), (0, some 43), (19, none), (20, none), (21, none), (23, none), (28, none)]
abbrev wr_X12_seesOf : List (Nat × Option Nat) := [(0, some 42), (0, some 43), (19, none), (20, none), (21, none), (23, none), (28, none)]
abbrev wr_X12_sees : List (Nat × Option Nat) := [(0, some 0), (0, some 42), (0, some 43), (19, none), (20, none), (21, none), (23, none), (28, none)]
abbrev wr_X12_seenBy : List (Nat × Option Nat) := []
abbrev wr_X12_cover : List (Nat × Option Nat) := [(0, some 0), (0, some 42), (0, some 43), (19, none), (20, none), (21, none), (23, none), (28, none), (29, none)]
abbrev wr_X12_layNames : List (Nat × Option Nat) := [(0, some 53), (30, none)]
abbrev wr_X12_nameAt : List (Nat × Option Nat) := []
abbrev wr_X12_name : List (Nat × Option Nat) := [(0, some 0), (0, some 53), (30, none)]
abbrev wr_X12_first : List (Nat × Option Nat) := [(0, some 0), (0, some 53), (30, none)]
abbrev wr_X12_isText : List (Nat × Option Nat) := []
abbrev wr_X12_isTapeName : List (Nat × Option Nat) := []
abbrev wr_X12_known : List (Nat × Option Nat) := [(0, some 0), (0, some 15), (0, some 58), (31, none), (33, none)]
abbrev wr_X12_read : List (Nat × Option Nat) := [(0, some 0), (0, some 15), (32, none), (34, none)]
abbrev wr_X12_limit : List (Nat × Option Nat) := [(0, some 0), (0, some 59)]
abbrev wr_X12_farOf : List (Nat × Option Nat) := [(35, none)]
abbrev wr_X12_isRead : List (Nat × Option Nat) := []
abbrev wr_X12_far : List (Nat × Option Nat) := [(0, some 0), (35, none)]
abbrev wr_X12_goesOf : List (Nat × Option Nat) := [(35, none)]
abbrev wr_X12_goes : List (Nat × Option Nat) := [(0, some 0), (35, none)]
abbrev wr_X12_isAnyRead : List (Nat × Option Nat) := []
abbrev wr_X12_agreesOn : List (Nat × Option Nat) := [(35, none)]
abbrev wr_X12_agrees : List (Nat × Option Nat) := [(0, some 0), (35, none)]
abbrev wr_X12_areSame : List (Nat × Option Nat) := []
abbrev wr_X12_isReadUnlike : List (Nat × Option Nat) := []
abbrev wr_X12_papers : List (Nat × Option Nat) := [(0, some 0), (35, none)]
abbrev wr_X12_written : List (Nat × Option Nat) := [(35, none)]
abbrev wr_X12_writtenFor : List (Nat × Option Nat) := [(0, some 0), (35, none)]
abbrev wr_X12_elected : List (Nat × Option Nat) := [(0, some 0), (35, none)]
abbrev wr_X12_absent : List (Nat × Option Nat) := [(0, some 0), (36, none), (37, none)]
abbrev wr_X12_joinedAhead : List (Nat × Option Nat) := [(0, some 0), (0, some 14), (0, some 18), (0, some 19), (0, some 20), (0, some 21), (0, some 22), (0, some 23), (0, some 24), (0, some 27), (0, some 42), (0, some 43), (0, some 44), (10, none), (19, none), (20, none), (21, none), (22, none), (23, none)]
abbrev wr_X12_event : List (Nat × Option Nat) := [(0, some 0), (38, none), (39, none), (40, none), (41, none)]
abbrev wr_X12_goSeals : List (Nat × Option Nat) := [(0, some 69), (42, none), (43, none)]
abbrev wr_X12_badOnes : List (Nat × Option Nat) := [(0, some 0), (0, some 69), (42, none), (43, none)]
abbrev wr_X12_openWithin : List (Nat × Option Nat) := [(0, some 69), (42, none), (43, none)]
abbrev wr_X12_exposed : List (Nat × Option Nat) := [(0, some 0), (0, some 69), (42, none), (43, none)]
abbrev wr_X12_placeAt : List (Nat × Option Nat) := [(0, some 0)]
abbrev wr_X12_alone : List (Nat × Option Nat) := [(0, some 0), (0, some 69), (42, none), (43, none)]
abbrev wr_X12_recount : List (Nat × Option Nat) := [(0, some 0), (44, none), (45, none)]
abbrev wr_X12_kept : List (Nat × Option Nat) := [(0, some 0)]
abbrev wr_X12_changed : List (Nat × Option Nat) := [(0, some 0)]
abbrev wr_X12_latest : List (Nat × Option Nat) := []
abbrev wr_X12_differing : List (Nat × Option Nat) := []
abbrev wr_X12_differs : List (Nat × Option Nat) := [(0, some 0)]
abbrev wr_X12_take : List (Nat × Option Nat) := [(0, some 0), (12, none)]
abbrev wr_X12_count : List (Nat × Option Nat) := [(0, some 0)]
theorem fr_X12_office_b70 {M0 : xM} (fu : Nat)  (x1 : Int32) (x2 : Int32) {k42 : Int32 → xM → Option (Int32 × xM)} (hk42 : ∀ (b0 : Int32) (M : xM), xfr wr_X12_office M0 M → Fr wr_X12_office M0 Prod.snd (k42 b0 M)) (x3 : Int32) (M : xM) (hm : xfr wr_X12_office M0 M) : Fr wr_X12_office M0 Prod.snd (F_X12_office_b70 fu x1 x2 k42 x3 M) := by
  unfold F_X12_office_b70
  exact hk42 _ _ hm
theorem fr_X12_office_b104 {M0 : xM} (fu : Nat)  (x1 : Int32) (x2 : Int32) {k78 : Int32 → xM → Option (Int32 × xM)} (hk78 : ∀ (b0 : Int32) (M : xM), xfr wr_X12_office M0 M → Fr wr_X12_office M0 Prod.snd (k78 b0 M)) (x3 : Int32) (M : xM) (hm : xfr wr_X12_office M0 M) : Fr wr_X12_office M0 Prod.snd (F_X12_office_b104 fu x1 x2 k78 x3 M) := by
  unfold F_X12_office_b104
  exact hk78 _ _ hm
theorem fr_X12_office_b78 {M0 : xM} (fu : Nat)  (x1 : Int32) (x2 : Int32)  : ∀ (n : Nat) (x3 : Int32) (M : xM), xfr wr_X12_office M0 M → Fr wr_X12_office M0 Prod.snd (F_X12_office_b78 fu x1 x2 n x3 M) := by
  intro n
  induction n with
  | zero =>
    intro x3 M hm
    exact Fr.none
  | succ n ih =>
    intro x3 M hm
    rw [F_X12_office_b78]
    refine Fr.ite ?_ ?_
    · refine Fr.ite Fr.none ?_
      refine Fr.ite Fr.none ?_
      exact Fr.some (by repeat first | exact hm | refine xfr.setf ?_ (by first | decide | exact xin_none (by decide) _))
    · refine Fr.ite ?_ ?_
      · exact fr_X12_office_b104 fu x1 x2 ih _ _ (by repeat first | exact hm | refine xfr.setf ?_ (by first | decide | exact xin_none (by decide) _))
      · refine Fr.ite Fr.none ?_
        exact fr_X12_office_b104 fu x1 x2 ih _ _ (by repeat first | exact hm | refine xfr.setf ?_ (by first | decide | exact xin_none (by decide) _))
theorem fr_X12_office_b42 {M0 : xM} (fu : Nat)  (x1 : Int32) (x2 : Int32)  : ∀ (n : Nat) (x3 : Int32) (M : xM), xfr wr_X12_office M0 M → Fr wr_X12_office M0 Prod.snd (F_X12_office_b42 fu x1 x2 n x3 M) := by
  intro n
  induction n with
  | zero =>
    intro x3 M hm
    exact Fr.none
  | succ n ih =>
    intro x3 M hm
    rw [F_X12_office_b42]
    refine Fr.ite ?_ ?_
    · exact fr_X12_office_b78 fu x1 x2  fu _ _ hm
    · refine Fr.ite ?_ ?_
      · exact fr_X12_office_b70 fu x1 x2 ih _ _ hm
      · refine Fr.ite Fr.none ?_
        refine Fr.ite ?_ ?_
        · exact fr_X12_office_b70 fu x1 x2 ih _ _ hm
        · exact Fr.some hm
theorem fr_X12_office_b0 {M0 : xM} (fu : Nat)  (x1 : Int32) (x2 : Int32)   (M : xM) (hm : xfr wr_X12_office M0 M) : Fr wr_X12_office M0 Prod.snd (F_X12_office fu x1 x2  M) := by
  unfold F_X12_office
  refine Fr.ite ?_ ?_
  · exact Fr.some (by repeat first | exact hm | refine xfr.setf ?_ (by first | decide | exact xin_none (by decide) _))
  · refine Fr.ite ?_ ?_
    · exact Fr.some (by repeat first | exact hm | refine xfr.setf ?_ (by first | decide | exact xin_none (by decide) _))
    · refine Fr.ite ?_ ?_
      · exact Fr.some (by repeat first | exact hm | refine xfr.setf ?_ (by first | decide | exact xin_none (by decide) _))
      · refine Fr.ite ?_ ?_
        · exact Fr.some (by repeat first | exact hm | refine xfr.setf ?_ (by first | decide | exact xin_none (by decide) _))
        · exact fr_X12_office_b42 fu x1 x2  fu _ _ (by repeat first | exact hm | refine xfr.setf ?_ (by first | decide | exact xin_none (by decide) _))
theorem fr_X12_office (fu : Nat)  (x1 : Int32) (x2 : Int32) (M : xM) : Fr wr_X12_office M Prod.snd (F_X12_office fu x1 x2  M) := fr_X12_office_b0 fu x1 x2  M xfr.rf
theorem fr_X12_strap_b0 {M0 : xM}  (x1 : Int32) (x2 : Int32)   (M : xM) (hm : xfr wr_X12_strap M0 M) : Fr wr_X12_strap M0 Prod.snd (F_X12_strap x1 x2  M) := by
  unfold F_X12_strap
  refine Fr.ite ?_ ?_
  · exact Fr.some (by repeat first | exact hm | refine xfr.setf ?_ (by first | decide | exact xin_none (by decide) _))
  · refine Fr.ite ?_ ?_
    · exact Fr.some (by repeat first | exact hm | refine xfr.setf ?_ (by first | decide | exact xin_none (by decide) _))
    · refine Fr.ite ?_ ?_
      · exact Fr.some (by repeat first | exact hm | refine xfr.setf ?_ (by first | decide | exact xin_none (by decide) _))
      · refine Fr.ite ?_ ?_
        · exact Fr.some (by repeat first | exact hm | refine xfr.setf ?_ (by first | decide | exact xin_none (by decide) _))
        · refine Fr.ite Fr.none ?_
          refine Fr.ite Fr.none ?_
          exact Fr.some (by repeat first | exact hm | refine xfr.setf ?_ (by first | decide | exact xin_none (by decide) _))
theorem fr_X12_strap  (x1 : Int32) (x2 : Int32) (M : xM) : Fr wr_X12_strap M Prod.snd (F_X12_strap  x1 x2  M) := fr_X12_strap_b0 x1 x2  M xfr.rf
theorem fr_X12_unstrap_b0 {M0 : xM}     (M : xM) (hm : xfr wr_X12_unstrap M0 M) : Fr wr_X12_unstrap M0 Prod.snd (F_X12_unstrap   M) := by
  unfold F_X12_unstrap
  refine Fr.ite ?_ ?_
  · exact Fr.some (by repeat first | exact hm | refine xfr.setf ?_ (by first | decide | exact xin_none (by decide) _))
  · exact Fr.some (by repeat first | exact hm | refine xfr.setf ?_ (by first | decide | exact xin_none (by decide) _))
theorem fr_X12_unstrap   (M : xM) : Fr wr_X12_unstrap M Prod.snd (F_X12_unstrap    M) := fr_X12_unstrap_b0   M xfr.rf
theorem fr_X12_against_b40 {M0 : xM} (fu : Nat)  (x1 : Int32) {k4 : Int32 → Int32 → xM → Option (Int32 × xM)} (hk4 : ∀ (b0 : Int32) (b1 : Int32) (M : xM), xfr wr_X12_against M0 M → Fr wr_X12_against M0 Prod.snd (k4 b0 b1 M)) (x3 : Int32) (s0 : Int32) (s1 : Int32) (M : xM) (hm : xfr wr_X12_against M0 M) : Fr wr_X12_against M0 Prod.snd (F_X12_against_b40 fu x1 k4 x3 s0 s1 M) := by
  unfold F_X12_against_b40
  exact hk4 _ _ _ hm
theorem fr_X12_against_b4 {M0 : xM} (fu : Nat)  (x1 : Int32)  : ∀ (n : Nat) (x2 : Int32) (x3 : Int32) (M : xM), xfr wr_X12_against M0 M → Fr wr_X12_against M0 Prod.snd (F_X12_against_b4 fu x1 n x2 x3 M) := by
  intro n
  induction n with
  | zero =>
    intro x2 x3 M hm
    exact Fr.none
  | succ n ih =>
    intro x2 x3 M hm
    rw [F_X12_against_b4]
    refine Fr.ite ?_ ?_
    · exact Fr.some hm
    · refine Fr.ite Fr.none ?_
      refine Fr.ite Fr.none ?_
      refine Fr.ite ?_ ?_
      · exact fr_X12_against_b40 fu x1 ih _ _ _ _ hm
      · exact fr_X12_against_b40 fu x1 ih _ _ _ _ hm
theorem fr_X12_against_b0 {M0 : xM} (fu : Nat)  (x1 : Int32)   (M : xM) (hm : xfr wr_X12_against M0 M) : Fr wr_X12_against M0 Prod.snd (F_X12_against fu x1  M) := by
  unfold F_X12_against
  exact fr_X12_against_b4 fu x1  fu _ _ _ hm
theorem fr_X12_against (fu : Nat)  (x1 : Int32) (M : xM) : Fr wr_X12_against M Prod.snd (F_X12_against fu x1  M) := fr_X12_against_b0 fu x1  M xfr.rf
theorem fr_X12_isLawful_b2 {M0 : xM} (fu : Nat)  (x1 : Int32)  : ∀ (n : Nat) (x2 : Int32) (M : xM), xfr wr_X12_isLawful M0 M → Fr wr_X12_isLawful M0 Prod.snd (F_X12_isLawful_b2 fu x1 n x2 M) := by
  intro n
  induction n with
  | zero =>
    intro x2 M hm
    exact Fr.none
  | succ n ih =>
    intro x2 M hm
    rw [F_X12_isLawful_b2]
    refine Fr.ite ?_ ?_
    · exact Fr.some hm
    · refine Fr.ite Fr.none ?_
      refine Fr.ite Fr.none ?_
      refine Fr.ite ?_ ?_
      · exact ih _ _ hm
      · exact Fr.some hm
theorem fr_X12_isLawful_b0 {M0 : xM} (fu : Nat)  (x1 : Int32)   (M : xM) (hm : xfr wr_X12_isLawful M0 M) : Fr wr_X12_isLawful M0 Prod.snd (F_X12_isLawful fu x1  M) := by
  unfold F_X12_isLawful
  exact fr_X12_isLawful_b2 fu x1  fu _ _ hm
theorem fr_X12_isLawful (fu : Nat)  (x1 : Int32) (M : xM) : Fr wr_X12_isLawful M Prod.snd (F_X12_isLawful fu x1  M) := fr_X12_isLawful_b0 fu x1  M xfr.rf
theorem fr_X12_may_b47 {M0 : xM} (fu : Nat)  (x1 : Int32) (x2 : Int32)   (M : xM) (hm : xfr wr_X12_may M0 M) : Fr wr_X12_may M0 Prod.snd (F_X12_may_b47 fu x1 x2  M) := by
  unfold F_X12_may_b47
  exact Fr.some hm
theorem fr_X12_may_b0 {M0 : xM} (fu : Nat)  (x1 : Int32) (x2 : Int32)   (M : xM) (hm : xfr wr_X12_may M0 M) : Fr wr_X12_may M0 Prod.snd (F_X12_may fu x1 x2  M) := by
  unfold F_X12_may
  refine Fr.ite ?_ ?_
  · exact Fr.some (by repeat first | exact hm | refine xfr.setf ?_ (by first | decide | exact xin_none (by decide) _))
  · refine Fr.ite ?_ ?_
    · exact Fr.some (by repeat first | exact hm | refine xfr.setf ?_ (by first | decide | exact xin_none (by decide) _))
    · refine Fr.ite ?_ ?_
      · refine Fr.bind (fr_X12_against fu _ _) (by decide) (by repeat first | exact hm | refine xfr.setf ?_ (by first | decide | exact xin_none (by decide) _)) (fun q2 hm => ?_)
        refine Fr.ite ?_ ?_
        · exact fr_X12_may_b47 fu x1 x2   _ (by repeat first | exact hm | refine xfr.setf ?_ (by first | decide | exact xin_none (by decide) _))
        · exact Fr.some (by repeat first | exact hm | refine xfr.setf ?_ (by first | decide | exact xin_none (by decide) _))
      · refine Fr.bind (fr_X12_isLawful fu _ _) (by decide) (by repeat first | exact hm | refine xfr.setf ?_ (by first | decide | exact xin_none (by decide) _)) (fun q1 hm => ?_)
        refine Fr.ite ?_ ?_
        · exact Fr.some (by repeat first | exact hm | refine xfr.setf ?_ (by first | decide | exact xin_none (by decide) _))
        · exact fr_X12_may_b47 fu x1 x2   _ (by repeat first | exact hm | refine xfr.setf ?_ (by first | decide | exact xin_none (by decide) _))
theorem fr_X12_may (fu : Nat)  (x1 : Int32) (x2 : Int32) (M : xM) : Fr wr_X12_may M Prod.snd (F_X12_may fu x1 x2  M) := fr_X12_may_b0 fu x1 x2  M xfr.rf
theorem fr_X12_proof_b66 {M0 : xM} (fu : Nat)  (x1 : Int32) {k18 : Int32 → xM → Option (Int32 × xM)} (hk18 : ∀ (b0 : Int32) (M : xM), xfr wr_X12_proof M0 M → Fr wr_X12_proof M0 Prod.snd (k18 b0 M)) (x2 : Int32) (M : xM) (hm : xfr wr_X12_proof M0 M) : Fr wr_X12_proof M0 Prod.snd (F_X12_proof_b66 fu x1 k18 x2 M) := by
  unfold F_X12_proof_b66
  exact hk18 _ _ hm
theorem fr_X12_proof_b61 {M0 : xM} (fu : Nat)  (x1 : Int32) {k18 : Int32 → xM → Option (Int32 × xM)} (hk18 : ∀ (b0 : Int32) (M : xM), xfr wr_X12_proof M0 M → Fr wr_X12_proof M0 Prod.snd (k18 b0 M)) (x2 : Int32) (s0 : Int32) (s1 : Int32) (M : xM) (hm : xfr wr_X12_proof M0 M) : Fr wr_X12_proof M0 Prod.snd (F_X12_proof_b61 fu x1 k18 x2 s0 s1 M) := by
  unfold F_X12_proof_b61
  refine Fr.ite ?_ ?_
  · exact Fr.some hm
  · exact fr_X12_proof_b66 fu x1 hk18 _ _ hm
theorem fr_X12_proof_b41 {M0 : xM} (fu : Nat)  (x1 : Int32) {k18 : Int32 → xM → Option (Int32 × xM)} (hk18 : ∀ (b0 : Int32) (M : xM), xfr wr_X12_proof M0 M → Fr wr_X12_proof M0 Prod.snd (k18 b0 M)) (x2 : Int32) (s0 : Int32) (M : xM) (hm : xfr wr_X12_proof M0 M) : Fr wr_X12_proof M0 Prod.snd (F_X12_proof_b41 fu x1 k18 x2 s0 M) := by
  unfold F_X12_proof_b41
  refine Fr.bind (fr_X12_isLawful fu _ _) (by decide) hm (fun q1 hm => ?_)
  refine Fr.ite ?_ ?_
  · exact fr_X12_proof_b66 fu x1 hk18 _ _ hm
  · refine Fr.ite ?_ ?_
    · exact fr_X12_proof_b61 fu x1 hk18 _ _ _ _ hm
    · exact fr_X12_proof_b61 fu x1 hk18 _ _ _ _ hm
theorem fr_X12_proof_b18 {M0 : xM} (fu : Nat)  (x1 : Int32)  : ∀ (n : Nat) (x2 : Int32) (M : xM), xfr wr_X12_proof M0 M → Fr wr_X12_proof M0 Prod.snd (F_X12_proof_b18 fu x1 n x2 M) := by
  intro n
  induction n with
  | zero =>
    intro x2 M hm
    exact Fr.none
  | succ n ih =>
    intro x2 M hm
    rw [F_X12_proof_b18]
    refine Fr.ite ?_ ?_
    · exact Fr.some hm
    · refine Fr.bind (fr_X12_against fu _ _) (by decide) hm (fun q1 hm => ?_)
      refine Fr.ite ?_ ?_
      · exact fr_X12_proof_b41 fu x1 ih _ _ _ hm
      · exact fr_X12_proof_b41 fu x1 ih _ _ _ hm
theorem fr_X12_proof_b0 {M0 : xM} (fu : Nat)  (x1 : Int32)   (M : xM) (hm : xfr wr_X12_proof M0 M) : Fr wr_X12_proof M0 Prod.snd (F_X12_proof fu x1  M) := by
  unfold F_X12_proof
  refine Fr.ite ?_ ?_
  · exact Fr.some (by repeat first | exact hm | refine xfr.setf ?_ (by first | decide | exact xin_none (by decide) _))
  · exact fr_X12_proof_b18 fu x1  fu _ _ (by repeat first | exact hm | refine xfr.setf ?_ (by first | decide | exact xin_none (by decide) _))
theorem fr_X12_proof (fu : Nat)  (x1 : Int32) (M : xM) : Fr wr_X12_proof M Prod.snd (F_X12_proof fu x1  M) := fr_X12_proof_b0 fu x1  M xfr.rf
theorem fr_X12_rows_b33 {M0 : xM} (fu : Nat)   {k9 : Int32 → Int32 → xM → Option (Int32 × xM)} (hk9 : ∀ (b0 : Int32) (b1 : Int32) (M : xM), xfr wr_X12_rows M0 M → Fr wr_X12_rows M0 Prod.snd (k9 b0 b1 M)) (x2 : Int32) (s0 : Int32) (s1 : Int32) (M : xM) (hm : xfr wr_X12_rows M0 M) : Fr wr_X12_rows M0 Prod.snd (F_X12_rows_b33 fu k9 x2 s0 s1 M) := by
  unfold F_X12_rows_b33
  exact hk9 _ _ _ hm
theorem fr_X12_rows_b9 {M0 : xM} (fu : Nat)    : ∀ (n : Nat) (x1 : Int32) (x2 : Int32) (M : xM), xfr wr_X12_rows M0 M → Fr wr_X12_rows M0 Prod.snd (F_X12_rows_b9 fu n x1 x2 M) := by
  intro n
  induction n with
  | zero =>
    intro x1 x2 M hm
    exact Fr.none
  | succ n ih =>
    intro x1 x2 M hm
    rw [F_X12_rows_b9]
    refine Fr.ite ?_ ?_
    · exact Fr.some hm
    · refine Fr.bind (fr_X12_against fu _ _) (by decide) hm (fun q1 hm => ?_)
      refine Fr.ite ?_ ?_
      · exact fr_X12_rows_b33 fu ih _ _ _ _ hm
      · exact fr_X12_rows_b33 fu ih _ _ _ _ hm
theorem fr_X12_rows_b0 {M0 : xM} (fu : Nat)     (M : xM) (hm : xfr wr_X12_rows M0 M) : Fr wr_X12_rows M0 Prod.snd (F_X12_rows fu  M) := by
  unfold F_X12_rows
  exact fr_X12_rows_b9 fu  fu _ _ _ (by repeat first | exact hm | refine xfr.setf ?_ (by first | decide | exact xin_none (by decide) _))
theorem fr_X12_rows (fu : Nat)   (M : xM) : Fr wr_X12_rows M Prod.snd (F_X12_rows fu   M) := fr_X12_rows_b0 fu  M xfr.rf
theorem fr_X12_isEnough_b29 {M0 : xM} (fu : Nat)  (x1 : Int32) {k2 : Int32 → xM → Option (Int32 × xM)} (hk2 : ∀ (b0 : Int32) (M : xM), xfr wr_X12_isEnough M0 M → Fr wr_X12_isEnough M0 Prod.snd (k2 b0 M)) (x2 : Int32) (M : xM) (hm : xfr wr_X12_isEnough M0 M) : Fr wr_X12_isEnough M0 Prod.snd (F_X12_isEnough_b29 fu x1 k2 x2 M) := by
  unfold F_X12_isEnough_b29
  exact hk2 _ _ hm
theorem fr_X12_isEnough_b2 {M0 : xM} (fu : Nat)  (x1 : Int32)  : ∀ (n : Nat) (x2 : Int32) (M : xM), xfr wr_X12_isEnough M0 M → Fr wr_X12_isEnough M0 Prod.snd (F_X12_isEnough_b2 fu x1 n x2 M) := by
  intro n
  induction n with
  | zero =>
    intro x2 M hm
    exact Fr.none
  | succ n ih =>
    intro x2 M hm
    rw [F_X12_isEnough_b2]
    refine Fr.ite ?_ ?_
    · exact Fr.some hm
    · refine Fr.ite Fr.none ?_
      refine Fr.ite ?_ ?_
      · exact fr_X12_isEnough_b29 fu x1 ih _ _ hm
      · refine Fr.ite ?_ ?_
        · exact Fr.some hm
        · exact fr_X12_isEnough_b29 fu x1 ih _ _ hm
theorem fr_X12_isEnough_b0 {M0 : xM} (fu : Nat)  (x1 : Int32)   (M : xM) (hm : xfr wr_X12_isEnough M0 M) : Fr wr_X12_isEnough M0 Prod.snd (F_X12_isEnough fu x1  M) := by
  unfold F_X12_isEnough
  exact fr_X12_isEnough_b2 fu x1  fu _ _ hm
theorem fr_X12_isEnough (fu : Nat)  (x1 : Int32) (M : xM) : Fr wr_X12_isEnough M Prod.snd (F_X12_isEnough fu x1  M) := fr_X12_isEnough_b0 fu x1  M xfr.rf
theorem fr_X12_need_b93 {M0 : xM} (fu : Nat)   {k60 : Int32 → Int32 → xM → Option (Int32 × xM)} (hk60 : ∀ (b0 : Int32) (b1 : Int32) (M : xM), xfr wr_X12_need M0 M → Fr wr_X12_need M0 Prod.snd (k60 b0 b1 M)) (x1 : Int32) (x2 : Int32) (M : xM) (hm : xfr wr_X12_need M0 M) : Fr wr_X12_need M0 Prod.snd (F_X12_need_b93 fu k60 x1 x2 M) := by
  unfold F_X12_need_b93
  exact hk60 _ _ _ hm
theorem fr_X12_need_b83 {M0 : xM} (fu : Nat)   {k60 : Int32 → Int32 → xM → Option (Int32 × xM)} (hk60 : ∀ (b0 : Int32) (b1 : Int32) (M : xM), xfr wr_X12_need M0 M → Fr wr_X12_need M0 Prod.snd (k60 b0 b1 M)) (x1 : Int32) (x2 : Int32) (M : xM) (hm : xfr wr_X12_need M0 M) : Fr wr_X12_need M0 Prod.snd (F_X12_need_b83 fu k60 x1 x2 M) := by
  unfold F_X12_need_b83
  refine Fr.bind (fr_X12_isEnough fu _ _) (by decide) hm (fun q1 hm => ?_)
  refine Fr.ite ?_ ?_
  · exact fr_X12_need_b93 fu hk60 _ _ _ hm
  · exact fr_X12_need_b93 fu hk60 _ _ _ hm
theorem fr_X12_need_b60 {M0 : xM} (fu : Nat)    : ∀ (n : Nat) (x1 : Int32) (x2 : Int32) (M : xM), xfr wr_X12_need M0 M → Fr wr_X12_need M0 Prod.snd (F_X12_need_b60 fu n x1 x2 M) := by
  intro n
  induction n with
  | zero =>
    intro x1 x2 M hm
    exact Fr.none
  | succ n ih =>
    intro x1 x2 M hm
    rw [F_X12_need_b60]
    refine Fr.ite ?_ ?_
    · exact Fr.some hm
    · refine Fr.ite ?_ ?_
      · exact fr_X12_need_b83 fu ih _ _ _ hm
      · refine Fr.ite ?_ ?_
        · exact fr_X12_need_b93 fu ih _ _ _ hm
        · exact fr_X12_need_b83 fu ih _ _ _ hm
theorem fr_X12_need_b29 {M0 : xM} (fu : Nat)    : ∀ (n : Nat) (x1 : Int32) (M : xM), xfr wr_X12_need M0 M → Fr wr_X12_need M0 Prod.snd (F_X12_need_b29 fu n x1 M) := by
  intro n
  induction n with
  | zero =>
    intro x1 M hm
    exact Fr.none
  | succ n ih =>
    intro x1 M hm
    rw [F_X12_need_b29]
    refine Fr.ite ?_ ?_
    · exact fr_X12_need_b60 fu  fu _ _ _ (by repeat first | exact hm | refine xfr.setf ?_ (by first | decide | exact xin_none (by decide) _))
    · refine Fr.bind (fr_X12_against fu _ _) (by decide) (by repeat first | exact hm | refine xfr.setf ?_ (by first | decide | exact xin_none (by decide) _)) (fun q1 hm => ?_)
      refine Fr.ite Fr.none ?_
      exact ih _ _ (by repeat first | exact hm | refine xfr.setf ?_ (by first | decide | exact xin_none (by decide) _))
theorem fr_X12_need_b7 {M0 : xM} (fu : Nat)    : ∀ (n : Nat) (x1 : Int32) (M : xM), xfr wr_X12_need M0 M → Fr wr_X12_need M0 Prod.snd (F_X12_need_b7 fu n x1 M) := by
  intro n
  induction n with
  | zero =>
    intro x1 M hm
    exact Fr.none
  | succ n ih =>
    intro x1 M hm
    rw [F_X12_need_b7]
    refine Fr.ite ?_ ?_
    · exact fr_X12_need_b29 fu  fu _ _ (by repeat first | exact hm | refine xfr.setf ?_ (by first | decide | exact xin_none (by decide) _))
    · refine Fr.ite Fr.none ?_
      exact ih _ _ (by repeat first | exact hm | refine xfr.setf ?_ (by first | decide | exact xin_none (by decide) _))
theorem fr_X12_need_b0 {M0 : xM} (fu : Nat)     (M : xM) (hm : xfr wr_X12_need M0 M) : Fr wr_X12_need M0 Prod.snd (F_X12_need fu  M) := by
  unfold F_X12_need
  exact fr_X12_need_b7 fu  fu _ _ (by repeat first | exact hm | refine xfr.setf ?_ (by first | decide | exact xin_none (by decide) _))
theorem fr_X12_need (fu : Nat)   (M : xM) : Fr wr_X12_need M Prod.snd (F_X12_need fu   M) := fr_X12_need_b0 fu  M xfr.rf
theorem fr_X12_orders_b38 {M0 : xM} (fu : Nat)  (x1 : Int32)  : ∀ (n : Nat) (x2 : Int32) (x3 : Int32) (M : xM), xfr wr_X12_orders M0 M → Fr wr_X12_orders M0 Prod.snd (F_X12_orders_b38 fu x1 n x2 x3 M) := by
  intro n
  induction n with
  | zero =>
    intro x2 x3 M hm
    exact Fr.none
  | succ n ih =>
    intro x2 x3 M hm
    rw [F_X12_orders_b38]
    refine Fr.ite ?_ ?_
    · exact Fr.some hm
    · exact ih _ _ _ hm
theorem fr_X12_orders_b0 {M0 : xM} (fu : Nat)  (x1 : Int32)   (M : xM) (hm : xfr wr_X12_orders M0 M) : Fr wr_X12_orders M0 Prod.snd (F_X12_orders fu x1  M) := by
  unfold F_X12_orders
  refine Fr.ite ?_ ?_
  · exact Fr.some (by repeat first | exact hm | refine xfr.setf ?_ (by first | decide | exact xin_none (by decide) _))
  · refine Fr.ite ?_ ?_
    · refine Fr.bind (fr_X12_against fu _ _) (by decide) (by repeat first | exact hm | refine xfr.setf ?_ (by first | decide | exact xin_none (by decide) _)) (fun q1 hm => ?_)
      refine Fr.ite ?_ ?_
      · exact fr_X12_orders_b38 fu x1  fu _ _ _ (by repeat first | exact hm | refine xfr.setf ?_ (by first | decide | exact xin_none (by decide) _))
      · exact Fr.some (by repeat first | exact hm | refine xfr.setf ?_ (by first | decide | exact xin_none (by decide) _))
    · exact Fr.some (by repeat first | exact hm | refine xfr.setf ?_ (by first | decide | exact xin_none (by decide) _))
theorem fr_X12_orders (fu : Nat)  (x1 : Int32) (M : xM) : Fr wr_X12_orders M Prod.snd (F_X12_orders fu x1  M) := fr_X12_orders_b0 fu x1  M xfr.rf
theorem fr_X12_bytesIn_b25 {M0 : xM} (fu : Nat)  (x0 : Int32) {k5 : Int32 → Int32 → xM → Option (Int32 × xM)} (hk5 : ∀ (b0 : Int32) (b1 : Int32) (M : xM), xfr wr_X12_bytesIn M0 M → Fr wr_X12_bytesIn M0 Prod.snd (k5 b0 b1 M)) (x2 : Int32) (s0 : Int32) (s1 : Int32) (M : xM) (hm : xfr wr_X12_bytesIn M0 M) : Fr wr_X12_bytesIn M0 Prod.snd (F_X12_bytesIn_b25 fu x0 k5 x2 s0 s1 M) := by
  unfold F_X12_bytesIn_b25
  exact hk5 _ _ _ hm
theorem fr_X12_bytesIn_b5 {M0 : xM} (fu : Nat)  (x0 : Int32)  : ∀ (n : Nat) (x1 : Int32) (x2 : Int32) (M : xM), xfr wr_X12_bytesIn M0 M → Fr wr_X12_bytesIn M0 Prod.snd (F_X12_bytesIn_b5 fu x0 n x1 x2 M) := by
  intro n
  induction n with
  | zero =>
    intro x1 x2 M hm
    exact Fr.none
  | succ n ih =>
    intro x1 x2 M hm
    rw [F_X12_bytesIn_b5]
    refine Fr.ite ?_ ?_
    · exact Fr.some hm
    · refine Fr.ite ?_ ?_
      · exact fr_X12_bytesIn_b25 fu x0 ih _ _ _ _ hm
      · exact fr_X12_bytesIn_b25 fu x0 ih _ _ _ _ hm
theorem fr_X12_bytesIn_b0 {M0 : xM} (fu : Nat)  (x0 : Int32)   (M : xM) (hm : xfr wr_X12_bytesIn M0 M) : Fr wr_X12_bytesIn M0 Prod.snd (F_X12_bytesIn fu x0  M) := by
  unfold F_X12_bytesIn
  exact fr_X12_bytesIn_b5 fu x0  fu _ _ _ hm
theorem fr_X12_bytesIn (fu : Nat)  (x0 : Int32) (M : xM) : Fr wr_X12_bytesIn M Prod.snd (F_X12_bytesIn fu x0  M) := fr_X12_bytesIn_b0 fu x0  M xfr.rf
theorem fr_X12_put_b43 {M0 : xM} (fu : Nat)  (x1 : Int32) {k3 : Int32 → xM → Option (xM)} (hk3 : ∀ (b0 : Int32) (M : xM), xfr wr_X12_put M0 M → Fr wr_X12_put M0 id (k3 b0 M)) (x2 : Int32) (M : xM) (hm : xfr wr_X12_put M0 M) : Fr wr_X12_put M0 id (F_X12_put_b43 fu x1 k3 x2 M) := by
  unfold F_X12_put_b43
  exact hk3 _ _ hm
theorem fr_X12_put_b3 {M0 : xM} (fu : Nat)  (x1 : Int32)  : ∀ (n : Nat) (x2 : Int32) (M : xM), xfr wr_X12_put M0 M → Fr wr_X12_put M0 id (F_X12_put_b3 fu x1 n x2 M) := by
  intro n
  induction n with
  | zero =>
    intro x2 M hm
    exact Fr.none
  | succ n ih =>
    intro x2 M hm
    rw [F_X12_put_b3]
    refine Fr.ite ?_ ?_
    · exact Fr.somev (by repeat first | exact hm | refine xfr.setf ?_ (by first | decide | exact xin_none (by decide) _))
    · refine Fr.ite ?_ ?_
      · exact fr_X12_put_b43 fu x1 ih _ _ (by repeat first | exact hm | refine xfr.setf ?_ (by first | decide | exact xin_none (by decide) _))
      · refine Fr.ite Fr.none ?_
        exact fr_X12_put_b43 fu x1 ih _ _ (by repeat first | exact hm | refine xfr.setf ?_ (by first | decide | exact xin_none (by decide) _))
theorem fr_X12_put_b0 {M0 : xM} (fu : Nat)  (x1 : Int32)   (M : xM) (hm : xfr wr_X12_put M0 M) : Fr wr_X12_put M0 id (F_X12_put fu x1  M) := by
  unfold F_X12_put
  exact fr_X12_put_b3 fu x1  fu _ _ hm
theorem fr_X12_put (fu : Nat)  (x1 : Int32) (M : xM) : Fr wr_X12_put M id (F_X12_put fu x1  M) := fr_X12_put_b0 fu x1  M xfr.rf
theorem fr_X12_feed_b0 {M0 : xM} (fu : Nat)  (x1 : Int32) (x2 : Int32) (x3 : Int32) (x4 : Int32) (x5 : Int32)   (M : xM) (hm : xfr wr_X12_feed M0 M) : Fr wr_X12_feed M0 Prod.snd (F_X12_feed fu x1 x2 x3 x4 x5  M) := by
  unfold F_X12_feed
  refine Fr.bind (fr_X12_bytesIn fu _ _) (by decide) (by repeat first | exact hm | refine xfr.setf ?_ (by first | decide | exact xin_none (by decide) _)) (fun q1 hm => ?_)
  refine Fr.bind (fr_X12_bytesIn fu _ _) (by decide) (by repeat first | exact hm | refine xfr.setf ?_ (by first | decide | exact xin_none (by decide) _)) (fun q2 hm => ?_)
  refine Fr.bind (fr_X12_bytesIn fu _ _) (by decide) (by repeat first | exact hm | refine xfr.setf ?_ (by first | decide | exact xin_none (by decide) _)) (fun q3 hm => ?_)
  refine Fr.bind (fr_X12_bytesIn fu _ _) (by decide) (by repeat first | exact hm | refine xfr.setf ?_ (by first | decide | exact xin_none (by decide) _)) (fun q4 hm => ?_)
  refine Fr.bind (fr_X12_bytesIn fu _ _) (by decide) (by repeat first | exact hm | refine xfr.setf ?_ (by first | decide | exact xin_none (by decide) _)) (fun q5 hm => ?_)
  refine Fr.ite ?_ ?_
  · refine Fr.bind (fr_X12_put fu _ _) (by decide) (by repeat first | exact hm | refine xfr.setf ?_ (by first | decide | exact xin_none (by decide) _)) (fun q6 hm => ?_)
    refine Fr.bind (fr_X12_put fu _ _) (by decide) (by repeat first | exact hm | refine xfr.setf ?_ (by first | decide | exact xin_none (by decide) _)) (fun q7 hm => ?_)
    refine Fr.bind (fr_X12_put fu _ _) (by decide) (by repeat first | exact hm | refine xfr.setf ?_ (by first | decide | exact xin_none (by decide) _)) (fun q8 hm => ?_)
    refine Fr.bind (fr_X12_put fu _ _) (by decide) (by repeat first | exact hm | refine xfr.setf ?_ (by first | decide | exact xin_none (by decide) _)) (fun q9 hm => ?_)
    refine Fr.bind (fr_X12_put fu _ _) (by decide) (by repeat first | exact hm | refine xfr.setf ?_ (by first | decide | exact xin_none (by decide) _)) (fun q10 hm => ?_)
    exact Fr.some (by repeat first | exact hm | refine xfr.setf ?_ (by first | decide | exact xin_none (by decide) _))
  · exact Fr.some (by repeat first | exact hm | refine xfr.setf ?_ (by first | decide | exact xin_none (by decide) _))
theorem fr_X12_feed (fu : Nat)  (x1 : Int32) (x2 : Int32) (x3 : Int32) (x4 : Int32) (x5 : Int32) (M : xM) : Fr wr_X12_feed M Prod.snd (F_X12_feed fu x1 x2 x3 x4 x5  M) := fr_X12_feed_b0 fu x1 x2 x3 x4 x5  M xfr.rf
theorem fr_X12_end_b0 {M0 : xM}  (x1 : Int32)   (M : xM) (hm : xfr wr_X12_end M0 M) : Fr wr_X12_end M0 Prod.snd (F_X12_end x1  M) := by
  unfold F_X12_end
  refine Fr.ite ?_ ?_
  · exact Fr.some (by repeat first | exact hm | refine xfr.setf ?_ (by first | decide | exact xin_none (by decide) _))
  · refine Fr.ite ?_ ?_
    · exact Fr.some (by repeat first | exact hm | refine xfr.setf ?_ (by first | decide | exact xin_none (by decide) _))
    · exact Fr.some (by repeat first | exact hm | refine xfr.setf ?_ (by first | decide | exact xin_none (by decide) _))
theorem fr_X12_end  (x1 : Int32) (M : xM) : Fr wr_X12_end M Prod.snd (F_X12_end  x1  M) := fr_X12_end_b0 x1  M xfr.rf
theorem fr_X12_look_b43 {M0 : xM} (fu : Nat)     (M : xM) (hm : xfr wr_X12_look M0 M) : Fr wr_X12_look M0 Prod.snd (F_X12_look_b43 fu  M) := by
  unfold F_X12_look_b43
  refine Fr.ite ?_ ?_
  · exact Fr.some hm
  · refine Fr.bindn (fun n1 => ?_)
    refine Fr.ite Fr.none ?_
    exact Fr.some hm
theorem fr_X12_look_b0 {M0 : xM} (fu : Nat)    : ∀ (n : Nat)  (M : xM), xfr wr_X12_look M0 M → Fr wr_X12_look M0 Prod.snd (F_X12_look_b0 fu n  M) := by
  intro n
  induction n with
  | zero =>
    intro  M hm
    exact Fr.none
  | succ n ih =>
    intro  M hm
    rw [F_X12_look_b0]
    refine Fr.ite ?_ ?_
    · exact fr_X12_look_b43 fu   _ (by repeat first | exact hm | refine xfr.setf ?_ (by first | decide | exact xin_none (by decide) _))
    · refine Fr.bindn (fun n1 => ?_)
      refine Fr.ite Fr.none ?_
      refine Fr.ite ?_ ?_
      · exact ih  _ (by repeat first | exact hm | refine xfr.setf ?_ (by first | decide | exact xin_none (by decide) _))
      · exact fr_X12_look_b43 fu   _ (by repeat first | exact hm | refine xfr.setf ?_ (by first | decide | exact xin_none (by decide) _))
theorem fr_X12_look (fu : Nat)   (M : xM) : Fr wr_X12_look M Prod.snd (F_X12_look fu  M) := fr_X12_look_b0 fu fu  M xfr.rf
theorem fr_X12_fails_b0 {M0 : xM}     (M : xM) (hm : xfr wr_X12_fails M0 M) : Fr wr_X12_fails M0 Prod.snd (F_X12_fails   M) := by
  unfold F_X12_fails
  refine Fr.ite ?_ ?_
  · exact Fr.some (by repeat first | exact hm | refine xfr.setf ?_ (by first | decide | exact xin_none (by decide) _))
  · exact Fr.some (by repeat first | exact hm | refine xfr.setf ?_ (by first | decide | exact xin_none (by decide) _))
theorem fr_X12_fails   (M : xM) : Fr wr_X12_fails M Prod.snd (F_X12_fails    M) := fr_X12_fails_b0   M xfr.rf
theorem fr_X12_goesIn_b0 {M0 : xM}     (M : xM) (hm : xfr wr_X12_goesIn M0 M) : Fr wr_X12_goesIn M0 Prod.snd (F_X12_goesIn   M) := by
  unfold F_X12_goesIn
  refine Fr.ite ?_ ?_
  · refine Fr.bind (fr_X12_fails  _) (by decide) (by repeat first | exact hm | refine xfr.setf ?_ (by first | decide | exact xin_none (by decide) _)) (fun q1 hm => ?_)
    exact Fr.ite (Fr.some (by repeat first | exact hm | refine xfr.setf ?_ (by first | decide | exact xin_none (by decide) _))) Fr.none
  · exact Fr.some (by repeat first | exact hm | refine xfr.setf ?_ (by first | decide | exact xin_none (by decide) _))
theorem fr_X12_goesIn   (M : xM) : Fr wr_X12_goesIn M Prod.snd (F_X12_goesIn    M) := fr_X12_goesIn_b0   M xfr.rf
theorem fr_X12_takes_b16 {M0 : xM} (fu : Nat)  (x1 : Int32)   (M : xM) (hm : xfr wr_X12_takes M0 M) : Fr wr_X12_takes M0 Prod.snd (F_X12_takes_b16 fu x1  M) := by
  unfold F_X12_takes_b16
  refine Fr.bind (fr_X12_fails  _) (by decide) hm (fun q1 hm => ?_)
  exact Fr.ite (Fr.some hm) Fr.none
theorem fr_X12_takes_b0 {M0 : xM} (fu : Nat)  (x1 : Int32)   (M : xM) (hm : xfr wr_X12_takes M0 M) : Fr wr_X12_takes M0 Prod.snd (F_X12_takes fu x1  M) := by
  unfold F_X12_takes
  refine Fr.ite ?_ ?_
  · refine Fr.bind (fr_X12_look fu  _) (by decide) (by repeat first | exact hm | refine xfr.setf ?_ (by first | decide | exact xin_none (by decide) _)) (fun q1 hm => ?_)
    refine Fr.ite ?_ ?_
    · exact Fr.some (by repeat first | exact hm | refine xfr.setf ?_ (by first | decide | exact xin_none (by decide) _))
    · exact fr_X12_takes_b16 fu x1   _ (by repeat first | exact hm | refine xfr.setf ?_ (by first | decide | exact xin_none (by decide) _))
  · exact fr_X12_takes_b16 fu x1   _ (by repeat first | exact hm | refine xfr.setf ?_ (by first | decide | exact xin_none (by decide) _))
theorem fr_X12_takes (fu : Nat)  (x1 : Int32) (M : xM) : Fr wr_X12_takes M Prod.snd (F_X12_takes fu x1  M) := fr_X12_takes_b0 fu x1  M xfr.rf
theorem fr_X12_isDigit_b0 {M0 : xM}     (M : xM) (hm : xfr wr_X12_isDigit M0 M) : Fr wr_X12_isDigit M0 Prod.snd (F_X12_isDigit   M) := by
  unfold F_X12_isDigit
  refine Fr.ite ?_ ?_
  · exact Fr.some hm
  · refine Fr.bindn (fun n1 => ?_)
    refine Fr.ite Fr.none ?_
    refine Fr.ite ?_ ?_
    · exact Fr.some hm
    · refine Fr.bindn (fun n3 => ?_)
      refine Fr.ite Fr.none ?_
      refine Fr.ite ?_ ?_
      · exact Fr.some hm
      · exact Fr.some hm
theorem fr_X12_isDigit   (M : xM) : Fr wr_X12_isDigit M Prod.snd (F_X12_isDigit    M) := fr_X12_isDigit_b0   M xfr.rf
theorem fr_X12_sum_b77 {M0 : xM} (fu : Nat) (g_sum : xM → Option (Int32 × xM)) (g_term : xM → Option (Int32 × xM)) (g_atom : xM → Option (Int32 × xM)) (hf_sum : ∀ (M : xM), Fr wr_X12_sum M Prod.snd (g_sum  M)) (hf_term : ∀ (M : xM), Fr wr_X12_term M Prod.snd (g_term  M)) (hf_atom : ∀ (M : xM), Fr wr_X12_atom M Prod.snd (g_atom  M))  {k5 : Int32 → xM → Option (Int32 × xM)} (hk5 : ∀ (b0 : Int32) (M : xM), xfr wr_X12_sum M0 M → Fr wr_X12_sum M0 Prod.snd (k5 b0 M)) (s0 : Int64) (M : xM) (hm : xfr wr_X12_sum M0 M) : Fr wr_X12_sum M0 Prod.snd (F_X12_sum_b77 fu g_sum g_term g_atom k5 s0 M) := by
  unfold F_X12_sum_b77
  exact hk5 _ _ hm
theorem fr_X12_sum_b45 {M0 : xM} (fu : Nat) (g_sum : xM → Option (Int32 × xM)) (g_term : xM → Option (Int32 × xM)) (g_atom : xM → Option (Int32 × xM)) (hf_sum : ∀ (M : xM), Fr wr_X12_sum M Prod.snd (g_sum  M)) (hf_term : ∀ (M : xM), Fr wr_X12_term M Prod.snd (g_term  M)) (hf_atom : ∀ (M : xM), Fr wr_X12_atom M Prod.snd (g_atom  M))  {k5 : Int32 → xM → Option (Int32 × xM)} (hk5 : ∀ (b0 : Int32) (M : xM), xfr wr_X12_sum M0 M → Fr wr_X12_sum M0 Prod.snd (k5 b0 M)) (x1 : Int32) (s0 : Int32) (M : xM) (hm : xfr wr_X12_sum M0 M) : Fr wr_X12_sum M0 Prod.snd (F_X12_sum_b45 fu g_sum g_term g_atom k5 x1 s0 M) := by
  unfold F_X12_sum_b45
  refine Fr.bind (hf_term  _) (by decide) (by repeat first | exact hm | refine xfr.setf ?_ (by first | decide | exact xin_none (by decide) _)) (fun q1 hm => ?_)
  refine Fr.ite ?_ ?_
  · exact fr_X12_sum_b77 fu g_sum g_term g_atom hf_sum hf_term hf_atom hk5 _ _ (by repeat first | exact hm | refine xfr.setf ?_ (by first | decide | exact xin_none (by decide) _))
  · exact fr_X12_sum_b77 fu g_sum g_term g_atom hf_sum hf_term hf_atom hk5 _ _ (by repeat first | exact hm | refine xfr.setf ?_ (by first | decide | exact xin_none (by decide) _))
theorem fr_X12_sum_b31 {M0 : xM} (fu : Nat) (g_sum : xM → Option (Int32 × xM)) (g_term : xM → Option (Int32 × xM)) (g_atom : xM → Option (Int32 × xM)) (hf_sum : ∀ (M : xM), Fr wr_X12_sum M Prod.snd (g_sum  M)) (hf_term : ∀ (M : xM), Fr wr_X12_term M Prod.snd (g_term  M)) (hf_atom : ∀ (M : xM), Fr wr_X12_atom M Prod.snd (g_atom  M))  {k5 : Int32 → xM → Option (Int32 × xM)} (hk5 : ∀ (b0 : Int32) (M : xM), xfr wr_X12_sum M0 M → Fr wr_X12_sum M0 Prod.snd (k5 b0 M)) (x1 : Int32) (M : xM) (hm : xfr wr_X12_sum M0 M) : Fr wr_X12_sum M0 Prod.snd (F_X12_sum_b31 fu g_sum g_term g_atom k5 x1 M) := by
  unfold F_X12_sum_b31
  refine Fr.bind (fr_X12_look fu  _) (by decide) hm (fun q1 hm => ?_)
  refine Fr.ite ?_ ?_
  · exact fr_X12_sum_b45 fu g_sum g_term g_atom hf_sum hf_term hf_atom hk5 _ _ _ hm
  · exact fr_X12_sum_b45 fu g_sum g_term g_atom hf_sum hf_term hf_atom hk5 _ _ _ hm
theorem fr_X12_sum_b5 {M0 : xM} (fu : Nat) (g_sum : xM → Option (Int32 × xM)) (g_term : xM → Option (Int32 × xM)) (g_atom : xM → Option (Int32 × xM)) (hf_sum : ∀ (M : xM), Fr wr_X12_sum M Prod.snd (g_sum  M)) (hf_term : ∀ (M : xM), Fr wr_X12_term M Prod.snd (g_term  M)) (hf_atom : ∀ (M : xM), Fr wr_X12_atom M Prod.snd (g_atom  M))   : ∀ (n : Nat) (x1 : Int32) (M : xM), xfr wr_X12_sum M0 M → Fr wr_X12_sum M0 Prod.snd (F_X12_sum_b5 fu g_sum g_term g_atom n x1 M) := by
  intro n
  induction n with
  | zero =>
    intro x1 M hm
    exact Fr.none
  | succ n ih =>
    intro x1 M hm
    rw [F_X12_sum_b5]
    refine Fr.ite ?_ ?_
    · refine Fr.bind (fr_X12_look fu  _) (by decide) hm (fun q1 hm => ?_)
      refine Fr.ite ?_ ?_
      · exact fr_X12_sum_b31 fu g_sum g_term g_atom hf_sum hf_term hf_atom ih _ _ hm
      · refine Fr.bind (fr_X12_look fu  _) (by decide) hm (fun q2 hm => ?_)
        refine Fr.ite ?_ ?_
        · exact fr_X12_sum_b31 fu g_sum g_term g_atom hf_sum hf_term hf_atom ih _ _ hm
        · exact Fr.some hm
    · exact Fr.some hm
theorem fr_X12_sum_b0 {M0 : xM} (fu : Nat) (g_sum : xM → Option (Int32 × xM)) (g_term : xM → Option (Int32 × xM)) (g_atom : xM → Option (Int32 × xM)) (hf_sum : ∀ (M : xM), Fr wr_X12_sum M Prod.snd (g_sum  M)) (hf_term : ∀ (M : xM), Fr wr_X12_term M Prod.snd (g_term  M)) (hf_atom : ∀ (M : xM), Fr wr_X12_atom M Prod.snd (g_atom  M))    (M : xM) (hm : xfr wr_X12_sum M0 M) : Fr wr_X12_sum M0 Prod.snd (F_X12_sum fu g_sum g_term g_atom  M) := by
  unfold F_X12_sum
  refine Fr.bind (hf_term  _) (by decide) hm (fun q1 hm => ?_)
  exact fr_X12_sum_b5 fu g_sum g_term g_atom hf_sum hf_term hf_atom  fu _ _ hm
theorem fr_X12_sum (fu : Nat) (g_sum : xM → Option (Int32 × xM)) (g_term : xM → Option (Int32 × xM)) (g_atom : xM → Option (Int32 × xM)) (hf_sum : ∀ (M : xM), Fr wr_X12_sum M Prod.snd (g_sum  M)) (hf_term : ∀ (M : xM), Fr wr_X12_term M Prod.snd (g_term  M)) (hf_atom : ∀ (M : xM), Fr wr_X12_atom M Prod.snd (g_atom  M))  (M : xM) : Fr wr_X12_sum M Prod.snd (F_X12_sum fu g_sum g_term g_atom   M) := fr_X12_sum_b0 fu g_sum g_term g_atom hf_sum hf_term hf_atom  M xfr.rf
theorem fr_X12_term_b87 {M0 : xM} (fu : Nat) (g_sum : xM → Option (Int32 × xM)) (g_term : xM → Option (Int32 × xM)) (g_atom : xM → Option (Int32 × xM)) (hf_sum : ∀ (M : xM), Fr wr_X12_sum M Prod.snd (g_sum  M)) (hf_term : ∀ (M : xM), Fr wr_X12_term M Prod.snd (g_term  M)) (hf_atom : ∀ (M : xM), Fr wr_X12_atom M Prod.snd (g_atom  M))  {k5 : Int32 → xM → Option (Int32 × xM)} (hk5 : ∀ (b0 : Int32) (M : xM), xfr wr_X12_term M0 M → Fr wr_X12_term M0 Prod.snd (k5 b0 M)) (s0 : Int64) (M : xM) (hm : xfr wr_X12_term M0 M) : Fr wr_X12_term M0 Prod.snd (F_X12_term_b87 fu g_sum g_term g_atom k5 s0 M) := by
  unfold F_X12_term_b87
  exact hk5 _ _ hm
theorem fr_X12_term_b45 {M0 : xM} (fu : Nat) (g_sum : xM → Option (Int32 × xM)) (g_term : xM → Option (Int32 × xM)) (g_atom : xM → Option (Int32 × xM)) (hf_sum : ∀ (M : xM), Fr wr_X12_sum M Prod.snd (g_sum  M)) (hf_term : ∀ (M : xM), Fr wr_X12_term M Prod.snd (g_term  M)) (hf_atom : ∀ (M : xM), Fr wr_X12_atom M Prod.snd (g_atom  M))  {k5 : Int32 → xM → Option (Int32 × xM)} (hk5 : ∀ (b0 : Int32) (M : xM), xfr wr_X12_term M0 M → Fr wr_X12_term M0 Prod.snd (k5 b0 M)) (x1 : Int32) (s0 : Int32) (M : xM) (hm : xfr wr_X12_term M0 M) : Fr wr_X12_term M0 Prod.snd (F_X12_term_b45 fu g_sum g_term g_atom k5 x1 s0 M) := by
  unfold F_X12_term_b45
  refine Fr.bind (hf_atom  _) (by decide) (by repeat first | exact hm | refine xfr.setf ?_ (by first | decide | exact xin_none (by decide) _)) (fun q1 hm => ?_)
  refine Fr.ite ?_ ?_
  · refine Fr.ite ?_ ?_
    · exact fr_X12_term_b87 fu g_sum g_term g_atom hf_sum hf_term hf_atom hk5 _ _ (by repeat first | exact hm | refine xfr.setf ?_ (by first | decide | exact xin_none (by decide) _))
    · refine Fr.ite Fr.none ?_
      exact fr_X12_term_b87 fu g_sum g_term g_atom hf_sum hf_term hf_atom hk5 _ _ (by repeat first | exact hm | refine xfr.setf ?_ (by first | decide | exact xin_none (by decide) _))
  · exact fr_X12_term_b87 fu g_sum g_term g_atom hf_sum hf_term hf_atom hk5 _ _ (by repeat first | exact hm | refine xfr.setf ?_ (by first | decide | exact xin_none (by decide) _))
theorem fr_X12_term_b31 {M0 : xM} (fu : Nat) (g_sum : xM → Option (Int32 × xM)) (g_term : xM → Option (Int32 × xM)) (g_atom : xM → Option (Int32 × xM)) (hf_sum : ∀ (M : xM), Fr wr_X12_sum M Prod.snd (g_sum  M)) (hf_term : ∀ (M : xM), Fr wr_X12_term M Prod.snd (g_term  M)) (hf_atom : ∀ (M : xM), Fr wr_X12_atom M Prod.snd (g_atom  M))  {k5 : Int32 → xM → Option (Int32 × xM)} (hk5 : ∀ (b0 : Int32) (M : xM), xfr wr_X12_term M0 M → Fr wr_X12_term M0 Prod.snd (k5 b0 M)) (x1 : Int32) (M : xM) (hm : xfr wr_X12_term M0 M) : Fr wr_X12_term M0 Prod.snd (F_X12_term_b31 fu g_sum g_term g_atom k5 x1 M) := by
  unfold F_X12_term_b31
  refine Fr.bind (fr_X12_look fu  _) (by decide) hm (fun q1 hm => ?_)
  refine Fr.ite ?_ ?_
  · exact fr_X12_term_b45 fu g_sum g_term g_atom hf_sum hf_term hf_atom hk5 _ _ _ hm
  · exact fr_X12_term_b45 fu g_sum g_term g_atom hf_sum hf_term hf_atom hk5 _ _ _ hm
theorem fr_X12_term_b5 {M0 : xM} (fu : Nat) (g_sum : xM → Option (Int32 × xM)) (g_term : xM → Option (Int32 × xM)) (g_atom : xM → Option (Int32 × xM)) (hf_sum : ∀ (M : xM), Fr wr_X12_sum M Prod.snd (g_sum  M)) (hf_term : ∀ (M : xM), Fr wr_X12_term M Prod.snd (g_term  M)) (hf_atom : ∀ (M : xM), Fr wr_X12_atom M Prod.snd (g_atom  M))   : ∀ (n : Nat) (x1 : Int32) (M : xM), xfr wr_X12_term M0 M → Fr wr_X12_term M0 Prod.snd (F_X12_term_b5 fu g_sum g_term g_atom n x1 M) := by
  intro n
  induction n with
  | zero =>
    intro x1 M hm
    exact Fr.none
  | succ n ih =>
    intro x1 M hm
    rw [F_X12_term_b5]
    refine Fr.ite ?_ ?_
    · refine Fr.bind (fr_X12_look fu  _) (by decide) hm (fun q1 hm => ?_)
      refine Fr.ite ?_ ?_
      · exact fr_X12_term_b31 fu g_sum g_term g_atom hf_sum hf_term hf_atom ih _ _ hm
      · refine Fr.bind (fr_X12_look fu  _) (by decide) hm (fun q2 hm => ?_)
        refine Fr.ite ?_ ?_
        · exact fr_X12_term_b31 fu g_sum g_term g_atom hf_sum hf_term hf_atom ih _ _ hm
        · exact Fr.some hm
    · exact Fr.some hm
theorem fr_X12_term_b0 {M0 : xM} (fu : Nat) (g_sum : xM → Option (Int32 × xM)) (g_term : xM → Option (Int32 × xM)) (g_atom : xM → Option (Int32 × xM)) (hf_sum : ∀ (M : xM), Fr wr_X12_sum M Prod.snd (g_sum  M)) (hf_term : ∀ (M : xM), Fr wr_X12_term M Prod.snd (g_term  M)) (hf_atom : ∀ (M : xM), Fr wr_X12_atom M Prod.snd (g_atom  M))    (M : xM) (hm : xfr wr_X12_term M0 M) : Fr wr_X12_term M0 Prod.snd (F_X12_term fu g_sum g_term g_atom  M) := by
  unfold F_X12_term
  refine Fr.bind (hf_atom  _) (by decide) hm (fun q1 hm => ?_)
  exact fr_X12_term_b5 fu g_sum g_term g_atom hf_sum hf_term hf_atom  fu _ _ hm
theorem fr_X12_term (fu : Nat) (g_sum : xM → Option (Int32 × xM)) (g_term : xM → Option (Int32 × xM)) (g_atom : xM → Option (Int32 × xM)) (hf_sum : ∀ (M : xM), Fr wr_X12_sum M Prod.snd (g_sum  M)) (hf_term : ∀ (M : xM), Fr wr_X12_term M Prod.snd (g_term  M)) (hf_atom : ∀ (M : xM), Fr wr_X12_atom M Prod.snd (g_atom  M))  (M : xM) : Fr wr_X12_term M Prod.snd (F_X12_term fu g_sum g_term g_atom   M) := fr_X12_term_b0 fu g_sum g_term g_atom hf_sum hf_term hf_atom  M xfr.rf
theorem fr_X12_atom_b90 {M0 : xM} (fu : Nat) (g_sum : xM → Option (Int32 × xM)) (g_term : xM → Option (Int32 × xM)) (g_atom : xM → Option (Int32 × xM)) (hf_sum : ∀ (M : xM), Fr wr_X12_sum M Prod.snd (g_sum  M)) (hf_term : ∀ (M : xM), Fr wr_X12_term M Prod.snd (g_term  M)) (hf_atom : ∀ (M : xM), Fr wr_X12_atom M Prod.snd (g_atom  M))   : ∀ (n : Nat) (x2 : Int32) (x3 : Int32) (M : xM), xfr wr_X12_atom M0 M → Fr wr_X12_atom M0 Prod.snd (F_X12_atom_b90 fu g_sum g_term g_atom n x2 x3 M) := by
  intro n
  induction n with
  | zero =>
    intro x2 x3 M hm
    exact Fr.none
  | succ n ih =>
    intro x2 x3 M hm
    rw [F_X12_atom_b90]
    refine Fr.bind (fr_X12_isDigit  _) (by decide) (by repeat first | exact hm | refine xfr.setf ?_ (by first | decide | exact xin_none (by decide) _)) (fun q1 hm => ?_)
    refine Fr.ite ?_ ?_
    · exact Fr.some (by repeat first | exact hm | refine xfr.setf ?_ (by first | decide | exact xin_none (by decide) _))
    · refine Fr.ite ?_ ?_
      · refine Fr.ite ?_ ?_
        · refine Fr.bind (fr_X12_fails  _) (by decide) (by repeat first | exact hm | refine xfr.setf ?_ (by first | decide | exact xin_none (by decide) _)) (fun q4 hm => ?_)
          exact Fr.some (by repeat first | exact hm | refine xfr.setf ?_ (by first | decide | exact xin_none (by decide) _))
        · refine Fr.bindn (fun n2 => ?_)
          refine Fr.ite Fr.none ?_
          exact ih _ _ _ (by repeat first | exact hm | refine xfr.setf ?_ (by first | decide | exact xin_none (by decide) _))
      · exact Fr.some (by repeat first | exact hm | refine xfr.setf ?_ (by first | decide | exact xin_none (by decide) _))
theorem fr_X12_atom_b86 {M0 : xM} (fu : Nat) (g_sum : xM → Option (Int32 × xM)) (g_term : xM → Option (Int32 × xM)) (g_atom : xM → Option (Int32 × xM)) (hf_sum : ∀ (M : xM), Fr wr_X12_sum M Prod.snd (g_sum  M)) (hf_term : ∀ (M : xM), Fr wr_X12_term M Prod.snd (g_term  M)) (hf_atom : ∀ (M : xM), Fr wr_X12_atom M Prod.snd (g_atom  M))    (M : xM) (hm : xfr wr_X12_atom M0 M) : Fr wr_X12_atom M0 Prod.snd (F_X12_atom_b86 fu g_sum g_term g_atom  M) := by
  unfold F_X12_atom_b86
  exact fr_X12_atom_b90 fu g_sum g_term g_atom hf_sum hf_term hf_atom  fu _ _ _ hm
theorem fr_X12_atom_b0 {M0 : xM} (fu : Nat) (g_sum : xM → Option (Int32 × xM)) (g_term : xM → Option (Int32 × xM)) (g_atom : xM → Option (Int32 × xM)) (hf_sum : ∀ (M : xM), Fr wr_X12_sum M Prod.snd (g_sum  M)) (hf_term : ∀ (M : xM), Fr wr_X12_term M Prod.snd (g_term  M)) (hf_atom : ∀ (M : xM), Fr wr_X12_atom M Prod.snd (g_atom  M))    (M : xM) (hm : xfr wr_X12_atom M0 M) : Fr wr_X12_atom M0 Prod.snd (F_X12_atom fu g_sum g_term g_atom  M) := by
  unfold F_X12_atom
  refine Fr.bind (fr_X12_look fu  _) (by decide) (by repeat first | exact hm | refine xfr.setf ?_ (by first | decide | exact xin_none (by decide) _)) (fun q1 hm => ?_)
  refine Fr.ite ?_ ?_
  · refine Fr.ite ?_ ?_
    · refine Fr.bind (fr_X12_goesIn  _) (by decide) (by repeat first | exact hm | refine xfr.setf ?_ (by first | decide | exact xin_none (by decide) _)) (fun q4 hm => ?_)
      refine Fr.ite ?_ ?_
      · exact Fr.some (by repeat first | exact hm | refine xfr.setf ?_ (by first | decide | exact xin_none (by decide) _))
      · refine Fr.bind (hf_sum  _) (by decide) (by repeat first | exact hm | refine xfr.setf ?_ (by first | decide | exact xin_none (by decide) _)) (fun q5 hm => ?_)
        refine Fr.bind (fr_X12_takes fu _ _) (by decide) (by repeat first | exact hm | refine xfr.setf ?_ (by first | decide | exact xin_none (by decide) _)) (fun q6 hm => ?_)
        refine Fr.ite ?_ ?_
        · exact Fr.some (by repeat first | exact hm | refine xfr.setf ?_ (by first | decide | exact xin_none (by decide) _))
        · exact Fr.some (by repeat first | exact hm | refine xfr.setf ?_ (by first | decide | exact xin_none (by decide) _))
    · refine Fr.bind (fr_X12_isDigit  _) (by decide) (by repeat first | exact hm | refine xfr.setf ?_ (by first | decide | exact xin_none (by decide) _)) (fun q2 hm => ?_)
      refine Fr.ite ?_ ?_
      · refine Fr.bind (fr_X12_fails  _) (by decide) (by repeat first | exact hm | refine xfr.setf ?_ (by first | decide | exact xin_none (by decide) _)) (fun q3 hm => ?_)
        exact fr_X12_atom_b86 fu g_sum g_term g_atom hf_sum hf_term hf_atom   _ (by repeat first | exact hm | refine xfr.setf ?_ (by first | decide | exact xin_none (by decide) _))
      · exact fr_X12_atom_b86 fu g_sum g_term g_atom hf_sum hf_term hf_atom   _ (by repeat first | exact hm | refine xfr.setf ?_ (by first | decide | exact xin_none (by decide) _))
  · refine Fr.ite Fr.none ?_
    exact Fr.some (by repeat first | exact hm | refine xfr.setf ?_ (by first | decide | exact xin_none (by decide) _))
theorem fr_X12_atom (fu : Nat) (g_sum : xM → Option (Int32 × xM)) (g_term : xM → Option (Int32 × xM)) (g_atom : xM → Option (Int32 × xM)) (hf_sum : ∀ (M : xM), Fr wr_X12_sum M Prod.snd (g_sum  M)) (hf_term : ∀ (M : xM), Fr wr_X12_term M Prod.snd (g_term  M)) (hf_atom : ∀ (M : xM), Fr wr_X12_atom M Prod.snd (g_atom  M))  (M : xM) : Fr wr_X12_atom M Prod.snd (F_X12_atom fu g_sum g_term g_atom   M) := fr_X12_atom_b0 fu g_sum g_term g_atom hf_sum hf_term hf_atom  M xfr.rf
theorem fr_R_X12_sum_term_atom (fu : Nat) : ∀ n : Nat, (∀ (M : xM), Fr wr_X12_sum M Prod.snd ((R_X12_sum_term_atom fu n).1 M)) ∧ (∀ (M : xM), Fr wr_X12_term M Prod.snd ((R_X12_sum_term_atom fu n).2.1 M)) ∧ (∀ (M : xM), Fr wr_X12_atom M Prod.snd ((R_X12_sum_term_atom fu n).2.2 M)) := by
  intro n
  induction n with
  | zero => exact ⟨fun _ => Fr.none, fun _ => Fr.none, fun _ => Fr.none⟩
  | succ n ih =>
    obtain ⟨h0, h1, h2⟩ := ih
    exact ⟨fun M => fr_X12_sum fu _ _ _ h0 h1 h2 M, fun M => fr_X12_term fu _ _ _ h0 h1 h2 M, fun M => fr_X12_atom fu _ _ _ h0 h1 h2 M⟩
theorem frT_X12_sum (fu : Nat) (M : xM) : Fr wr_X12_sum M Prod.snd (T_X12_sum fu M) := (fr_R_X12_sum_term_atom fu 30).1 M
theorem frT_X12_term (fu : Nat) (M : xM) : Fr wr_X12_term M Prod.snd (T_X12_term fu M) := (fr_R_X12_sum_term_atom fu 30).2.1 M
theorem frT_X12_atom (fu : Nat) (M : xM) : Fr wr_X12_atom M Prod.snd (T_X12_atom fu M) := (fr_R_X12_sum_term_atom fu 30).2.2 M
theorem fr_X12_compares_b12 {M0 : xM} (fu : Nat)  (x1 : Int32) (x2 : Int32)  (s0 : Int32) (M : xM) (hm : xfr wr_X12_compares M0 M) : Fr wr_X12_compares M0 Prod.snd (F_X12_compares_b12 fu x1 x2 s0 M) := by
  unfold F_X12_compares_b12
  refine Fr.ite ?_ ?_
  · refine Fr.bind (fr_X12_look fu  _) (by decide) (by repeat first | exact hm | refine xfr.setf ?_ (by first | decide | exact xin_none (by decide) _)) (fun q1 hm => ?_)
    refine Fr.ite ?_ ?_
    · refine Fr.bind (fr_X12_fails  _) (by decide) (by repeat first | exact hm | refine xfr.setf ?_ (by first | decide | exact xin_none (by decide) _)) (fun q3 hm => ?_)
      exact Fr.ite (Fr.some (by repeat first | exact hm | refine xfr.setf ?_ (by first | decide | exact xin_none (by decide) _))) Fr.none
    · refine Fr.bind (frT_X12_sum fu  _) (by decide) (by repeat first | exact hm | refine xfr.setf ?_ (by first | decide | exact xin_none (by decide) _)) (fun q2 hm => ?_)
      refine Fr.ite ?_ ?_
      · refine Fr.ite ?_ ?_
        · exact Fr.some (by repeat first | exact hm | refine xfr.setf ?_ (by first | decide | exact xin_none (by decide) _))
        · exact Fr.some (by repeat first | exact hm | refine xfr.setf ?_ (by first | decide | exact xin_none (by decide) _))
      · refine Fr.ite ?_ ?_
        · refine Fr.ite ?_ ?_
          · exact Fr.some (by repeat first | exact hm | refine xfr.setf ?_ (by first | decide | exact xin_none (by decide) _))
          · exact Fr.some (by repeat first | exact hm | refine xfr.setf ?_ (by first | decide | exact xin_none (by decide) _))
        · refine Fr.ite ?_ ?_
          · exact Fr.some (by repeat first | exact hm | refine xfr.setf ?_ (by first | decide | exact xin_none (by decide) _))
          · exact Fr.some (by repeat first | exact hm | refine xfr.setf ?_ (by first | decide | exact xin_none (by decide) _))
  · exact Fr.some (by repeat first | exact hm | refine xfr.setf ?_ (by first | decide | exact xin_none (by decide) _))
theorem fr_X12_compares_b0 {M0 : xM} (fu : Nat)  (x1 : Int32) (x2 : Int32)   (M : xM) (hm : xfr wr_X12_compares M0 M) : Fr wr_X12_compares M0 Prod.snd (F_X12_compares fu x1 x2  M) := by
  unfold F_X12_compares
  refine Fr.ite ?_ ?_
  · refine Fr.bind (frT_X12_sum fu  _) (by decide) hm (fun q1 hm => ?_)
    exact fr_X12_compares_b12 fu x1 x2  _ _ hm
  · exact fr_X12_compares_b12 fu x1 x2  _ _ hm
theorem fr_X12_compares (fu : Nat)  (x1 : Int32) (x2 : Int32) (M : xM) : Fr wr_X12_compares M Prod.snd (F_X12_compares fu x1 x2  M) := fr_X12_compares_b0 fu x1 x2  M xfr.rf
theorem fr_X12_unit_b0 {M0 : xM} (fu : Nat) (g_unit : xM → Option (Int32 × xM)) (g_part : Int32 → Int32 → xM → Option (Int32 × xM)) (g_condition : Int32 → Int32 → xM → Option (Int32 × xM)) (hf_unit : ∀ (M : xM), Fr wr_X12_unit M Prod.snd (g_unit  M)) (hf_part : ∀ (a0 : Int32) (a1 : Int32) (M : xM), Fr wr_X12_part M Prod.snd (g_part a0 a1 M)) (hf_condition : ∀ (a0 : Int32) (a1 : Int32) (M : xM), Fr wr_X12_condition M Prod.snd (g_condition a0 a1 M))    (M : xM) (hm : xfr wr_X12_unit M0 M) : Fr wr_X12_unit M0 Prod.snd (F_X12_unit fu g_unit g_part g_condition  M) := by
  unfold F_X12_unit
  refine Fr.bind (fr_X12_look fu  _) (by decide) (by repeat first | exact hm | refine xfr.setf ?_ (by first | decide | exact xin_none (by decide) _)) (fun q1 hm => ?_)
  refine Fr.ite ?_ ?_
  · refine Fr.bind (fr_X12_goesIn  _) (by decide) (by repeat first | exact hm | refine xfr.setf ?_ (by first | decide | exact xin_none (by decide) _)) (fun q6 hm => ?_)
    refine Fr.ite ?_ ?_
    · exact Fr.some (by repeat first | exact hm | refine xfr.setf ?_ (by first | decide | exact xin_none (by decide) _))
    · refine Fr.bind (hf_unit  _) (by decide) (by repeat first | exact hm | refine xfr.setf ?_ (by first | decide | exact xin_none (by decide) _)) (fun q7 hm => ?_)
      refine Fr.ite ?_ ?_
      · exact Fr.some (by repeat first | exact hm | refine xfr.setf ?_ (by first | decide | exact xin_none (by decide) _))
      · exact Fr.some (by repeat first | exact hm | refine xfr.setf ?_ (by first | decide | exact xin_none (by decide) _))
  · refine Fr.ite ?_ ?_
    · refine Fr.bind (fr_X12_goesIn  _) (by decide) (by repeat first | exact hm | refine xfr.setf ?_ (by first | decide | exact xin_none (by decide) _)) (fun q3 hm => ?_)
      refine Fr.ite ?_ ?_
      · exact Fr.some (by repeat first | exact hm | refine xfr.setf ?_ (by first | decide | exact xin_none (by decide) _))
      · refine Fr.bind (hf_condition _ _ _) (by decide) (by repeat first | exact hm | refine xfr.setf ?_ (by first | decide | exact xin_none (by decide) _)) (fun q4 hm => ?_)
        refine Fr.bind (fr_X12_takes fu _ _) (by decide) (by repeat first | exact hm | refine xfr.setf ?_ (by first | decide | exact xin_none (by decide) _)) (fun q5 hm => ?_)
        refine Fr.ite ?_ ?_
        · exact Fr.some (by repeat first | exact hm | refine xfr.setf ?_ (by first | decide | exact xin_none (by decide) _))
        · exact Fr.ite (Fr.some (by repeat first | exact hm | refine xfr.setf ?_ (by first | decide | exact xin_none (by decide) _))) Fr.none
    · refine Fr.bind (fr_X12_compares fu _ _ _) (by decide) (by repeat first | exact hm | refine xfr.setf ?_ (by first | decide | exact xin_none (by decide) _)) (fun q2 hm => ?_)
      exact Fr.ite (Fr.some (by repeat first | exact hm | refine xfr.setf ?_ (by first | decide | exact xin_none (by decide) _))) Fr.none
theorem fr_X12_unit (fu : Nat) (g_unit : xM → Option (Int32 × xM)) (g_part : Int32 → Int32 → xM → Option (Int32 × xM)) (g_condition : Int32 → Int32 → xM → Option (Int32 × xM)) (hf_unit : ∀ (M : xM), Fr wr_X12_unit M Prod.snd (g_unit  M)) (hf_part : ∀ (a0 : Int32) (a1 : Int32) (M : xM), Fr wr_X12_part M Prod.snd (g_part a0 a1 M)) (hf_condition : ∀ (a0 : Int32) (a1 : Int32) (M : xM), Fr wr_X12_condition M Prod.snd (g_condition a0 a1 M))  (M : xM) : Fr wr_X12_unit M Prod.snd (F_X12_unit fu g_unit g_part g_condition   M) := fr_X12_unit_b0 fu g_unit g_part g_condition hf_unit hf_part hf_condition  M xfr.rf
theorem fr_X12_part_b65 {M0 : xM} (fu : Nat) (g_unit : xM → Option (Int32 × xM)) (g_part : Int32 → Int32 → xM → Option (Int32 × xM)) (g_condition : Int32 → Int32 → xM → Option (Int32 × xM)) (hf_unit : ∀ (M : xM), Fr wr_X12_unit M Prod.snd (g_unit  M)) (hf_part : ∀ (a0 : Int32) (a1 : Int32) (M : xM), Fr wr_X12_part M Prod.snd (g_part a0 a1 M)) (hf_condition : ∀ (a0 : Int32) (a1 : Int32) (M : xM), Fr wr_X12_condition M Prod.snd (g_condition a0 a1 M)) (x1 : Int32) (x2 : Int32) {k18 : Int32 → xM → Option (Int32 × xM)} (hk18 : ∀ (b0 : Int32) (M : xM), xfr wr_X12_part M0 M → Fr wr_X12_part M0 Prod.snd (k18 b0 M)) (s0 : Int32) (M : xM) (hm : xfr wr_X12_part M0 M) : Fr wr_X12_part M0 Prod.snd (F_X12_part_b65 fu g_unit g_part g_condition x1 x2 k18 s0 M) := by
  unfold F_X12_part_b65
  exact hk18 _ _ hm
theorem fr_X12_part_b64 {M0 : xM} (fu : Nat) (g_unit : xM → Option (Int32 × xM)) (g_part : Int32 → Int32 → xM → Option (Int32 × xM)) (g_condition : Int32 → Int32 → xM → Option (Int32 × xM)) (hf_unit : ∀ (M : xM), Fr wr_X12_unit M Prod.snd (g_unit  M)) (hf_part : ∀ (a0 : Int32) (a1 : Int32) (M : xM), Fr wr_X12_part M Prod.snd (g_part a0 a1 M)) (hf_condition : ∀ (a0 : Int32) (a1 : Int32) (M : xM), Fr wr_X12_condition M Prod.snd (g_condition a0 a1 M)) (x1 : Int32) (x2 : Int32) {k18 : Int32 → xM → Option (Int32 × xM)} (hk18 : ∀ (b0 : Int32) (M : xM), xfr wr_X12_part M0 M → Fr wr_X12_part M0 Prod.snd (k18 b0 M))  (M : xM) (hm : xfr wr_X12_part M0 M) : Fr wr_X12_part M0 Prod.snd (F_X12_part_b64 fu g_unit g_part g_condition x1 x2 k18  M) := by
  unfold F_X12_part_b64
  exact fr_X12_part_b65 fu g_unit g_part g_condition hf_unit hf_part hf_condition x1 x2 hk18 _ _ hm
theorem fr_X12_part_b18 {M0 : xM} (fu : Nat) (g_unit : xM → Option (Int32 × xM)) (g_part : Int32 → Int32 → xM → Option (Int32 × xM)) (g_condition : Int32 → Int32 → xM → Option (Int32 × xM)) (hf_unit : ∀ (M : xM), Fr wr_X12_unit M Prod.snd (g_unit  M)) (hf_part : ∀ (a0 : Int32) (a1 : Int32) (M : xM), Fr wr_X12_part M Prod.snd (g_part a0 a1 M)) (hf_condition : ∀ (a0 : Int32) (a1 : Int32) (M : xM), Fr wr_X12_condition M Prod.snd (g_condition a0 a1 M)) (x1 : Int32) (x2 : Int32)  : ∀ (n : Nat) (x3 : Int32) (M : xM), xfr wr_X12_part M0 M → Fr wr_X12_part M0 Prod.snd (F_X12_part_b18 fu g_unit g_part g_condition x1 x2 n x3 M) := by
  intro n
  induction n with
  | zero =>
    intro x3 M hm
    exact Fr.none
  | succ n ih =>
    intro x3 M hm
    rw [F_X12_part_b18]
    refine Fr.ite ?_ ?_
    · refine Fr.bind (fr_X12_look fu  _) (by decide) (by repeat first | exact hm | refine xfr.setf ?_ (by first | decide | exact xin_none (by decide) _)) (fun q1 hm => ?_)
      refine Fr.ite ?_ ?_
      · refine Fr.bind (hf_unit  _) (by decide) (by repeat first | exact hm | refine xfr.setf ?_ (by first | decide | exact xin_none (by decide) _)) (fun q2 hm => ?_)
        refine Fr.ite ?_ ?_
        · exact fr_X12_part_b64 fu g_unit g_part g_condition hf_unit hf_part hf_condition x1 x2 ih  _ (by repeat first | exact hm | refine xfr.setf ?_ (by first | decide | exact xin_none (by decide) _))
        · refine Fr.ite ?_ ?_
          · exact fr_X12_part_b64 fu g_unit g_part g_condition hf_unit hf_part hf_condition x1 x2 ih  _ (by repeat first | exact hm | refine xfr.setf ?_ (by first | decide | exact xin_none (by decide) _))
          · exact fr_X12_part_b65 fu g_unit g_part g_condition hf_unit hf_part hf_condition x1 x2 ih _ _ (by repeat first | exact hm | refine xfr.setf ?_ (by first | decide | exact xin_none (by decide) _))
      · exact Fr.ite (Fr.some (by repeat first | exact hm | refine xfr.setf ?_ (by first | decide | exact xin_none (by decide) _))) Fr.none
    · exact Fr.ite (Fr.some (by repeat first | exact hm | refine xfr.setf ?_ (by first | decide | exact xin_none (by decide) _))) Fr.none
theorem fr_X12_part_b17 {M0 : xM} (fu : Nat) (g_unit : xM → Option (Int32 × xM)) (g_part : Int32 → Int32 → xM → Option (Int32 × xM)) (g_condition : Int32 → Int32 → xM → Option (Int32 × xM)) (hf_unit : ∀ (M : xM), Fr wr_X12_unit M Prod.snd (g_unit  M)) (hf_part : ∀ (a0 : Int32) (a1 : Int32) (M : xM), Fr wr_X12_part M Prod.snd (g_part a0 a1 M)) (hf_condition : ∀ (a0 : Int32) (a1 : Int32) (M : xM), Fr wr_X12_condition M Prod.snd (g_condition a0 a1 M)) (x1 : Int32) (x2 : Int32)  (s0 : Int32) (M : xM) (hm : xfr wr_X12_part M0 M) : Fr wr_X12_part M0 Prod.snd (F_X12_part_b17 fu g_unit g_part g_condition x1 x2 s0 M) := by
  unfold F_X12_part_b17
  exact fr_X12_part_b18 fu g_unit g_part g_condition hf_unit hf_part hf_condition x1 x2  fu _ _ hm
theorem fr_X12_part_b0 {M0 : xM} (fu : Nat) (g_unit : xM → Option (Int32 × xM)) (g_part : Int32 → Int32 → xM → Option (Int32 × xM)) (g_condition : Int32 → Int32 → xM → Option (Int32 × xM)) (hf_unit : ∀ (M : xM), Fr wr_X12_unit M Prod.snd (g_unit  M)) (hf_part : ∀ (a0 : Int32) (a1 : Int32) (M : xM), Fr wr_X12_part M Prod.snd (g_part a0 a1 M)) (hf_condition : ∀ (a0 : Int32) (a1 : Int32) (M : xM), Fr wr_X12_condition M Prod.snd (g_condition a0 a1 M)) (x1 : Int32) (x2 : Int32)   (M : xM) (hm : xfr wr_X12_part M0 M) : Fr wr_X12_part M0 Prod.snd (F_X12_part fu g_unit g_part g_condition x1 x2  M) := by
  unfold F_X12_part
  refine Fr.ite ?_ ?_
  · refine Fr.bind (hf_unit  _) (by decide) hm (fun q1 hm => ?_)
    exact fr_X12_part_b17 fu g_unit g_part g_condition hf_unit hf_part hf_condition x1 x2  _ _ hm
  · refine Fr.bind (fr_X12_compares fu _ _ _) (by decide) hm (fun q2 hm => ?_)
    exact fr_X12_part_b17 fu g_unit g_part g_condition hf_unit hf_part hf_condition x1 x2  _ _ hm
theorem fr_X12_part (fu : Nat) (g_unit : xM → Option (Int32 × xM)) (g_part : Int32 → Int32 → xM → Option (Int32 × xM)) (g_condition : Int32 → Int32 → xM → Option (Int32 × xM)) (hf_unit : ∀ (M : xM), Fr wr_X12_unit M Prod.snd (g_unit  M)) (hf_part : ∀ (a0 : Int32) (a1 : Int32) (M : xM), Fr wr_X12_part M Prod.snd (g_part a0 a1 M)) (hf_condition : ∀ (a0 : Int32) (a1 : Int32) (M : xM), Fr wr_X12_condition M Prod.snd (g_condition a0 a1 M)) (x1 : Int32) (x2 : Int32) (M : xM) : Fr wr_X12_part M Prod.snd (F_X12_part fu g_unit g_part g_condition x1 x2  M) := fr_X12_part_b0 fu g_unit g_part g_condition hf_unit hf_part hf_condition x1 x2  M xfr.rf
theorem fr_X12_condition_b56 {M0 : xM} (fu : Nat) (g_unit : xM → Option (Int32 × xM)) (g_part : Int32 → Int32 → xM → Option (Int32 × xM)) (g_condition : Int32 → Int32 → xM → Option (Int32 × xM)) (hf_unit : ∀ (M : xM), Fr wr_X12_unit M Prod.snd (g_unit  M)) (hf_part : ∀ (a0 : Int32) (a1 : Int32) (M : xM), Fr wr_X12_part M Prod.snd (g_part a0 a1 M)) (hf_condition : ∀ (a0 : Int32) (a1 : Int32) (M : xM), Fr wr_X12_condition M Prod.snd (g_condition a0 a1 M)) (x1 : Int32) (x2 : Int32) {k7 : Int32 → xM → Option (Int32 × xM)} (hk7 : ∀ (b0 : Int32) (M : xM), xfr wr_X12_condition M0 M → Fr wr_X12_condition M0 Prod.snd (k7 b0 M)) (s0 : Int32) (M : xM) (hm : xfr wr_X12_condition M0 M) : Fr wr_X12_condition M0 Prod.snd (F_X12_condition_b56 fu g_unit g_part g_condition x1 x2 k7 s0 M) := by
  unfold F_X12_condition_b56
  exact hk7 _ _ hm
theorem fr_X12_condition_b51 {M0 : xM} (fu : Nat) (g_unit : xM → Option (Int32 × xM)) (g_part : Int32 → Int32 → xM → Option (Int32 × xM)) (g_condition : Int32 → Int32 → xM → Option (Int32 × xM)) (hf_unit : ∀ (M : xM), Fr wr_X12_unit M Prod.snd (g_unit  M)) (hf_part : ∀ (a0 : Int32) (a1 : Int32) (M : xM), Fr wr_X12_part M Prod.snd (g_part a0 a1 M)) (hf_condition : ∀ (a0 : Int32) (a1 : Int32) (M : xM), Fr wr_X12_condition M Prod.snd (g_condition a0 a1 M)) (x1 : Int32) (x2 : Int32) {k7 : Int32 → xM → Option (Int32 × xM)} (hk7 : ∀ (b0 : Int32) (M : xM), xfr wr_X12_condition M0 M → Fr wr_X12_condition M0 Prod.snd (k7 b0 M))  (M : xM) (hm : xfr wr_X12_condition M0 M) : Fr wr_X12_condition M0 Prod.snd (F_X12_condition_b51 fu g_unit g_part g_condition x1 x2 k7  M) := by
  unfold F_X12_condition_b51
  exact fr_X12_condition_b56 fu g_unit g_part g_condition hf_unit hf_part hf_condition x1 x2 hk7 _ _ hm
theorem fr_X12_condition_b7 {M0 : xM} (fu : Nat) (g_unit : xM → Option (Int32 × xM)) (g_part : Int32 → Int32 → xM → Option (Int32 × xM)) (g_condition : Int32 → Int32 → xM → Option (Int32 × xM)) (hf_unit : ∀ (M : xM), Fr wr_X12_unit M Prod.snd (g_unit  M)) (hf_part : ∀ (a0 : Int32) (a1 : Int32) (M : xM), Fr wr_X12_part M Prod.snd (g_part a0 a1 M)) (hf_condition : ∀ (a0 : Int32) (a1 : Int32) (M : xM), Fr wr_X12_condition M Prod.snd (g_condition a0 a1 M)) (x1 : Int32) (x2 : Int32)  : ∀ (n : Nat) (x3 : Int32) (M : xM), xfr wr_X12_condition M0 M → Fr wr_X12_condition M0 Prod.snd (F_X12_condition_b7 fu g_unit g_part g_condition x1 x2 n x3 M) := by
  intro n
  induction n with
  | zero =>
    intro x3 M hm
    exact Fr.none
  | succ n ih =>
    intro x3 M hm
    rw [F_X12_condition_b7]
    refine Fr.ite ?_ ?_
    · refine Fr.bind (fr_X12_look fu  _) (by decide) (by repeat first | exact hm | refine xfr.setf ?_ (by first | decide | exact xin_none (by decide) _)) (fun q1 hm => ?_)
      refine Fr.ite ?_ ?_
      · refine Fr.bind (hf_part _ _ _) (by decide) (by repeat first | exact hm | refine xfr.setf ?_ (by first | decide | exact xin_none (by decide) _)) (fun q2 hm => ?_)
        refine Fr.ite ?_ ?_
        · refine Fr.ite ?_ ?_
          · exact fr_X12_condition_b56 fu g_unit g_part g_condition hf_unit hf_part hf_condition x1 x2 ih _ _ (by repeat first | exact hm | refine xfr.setf ?_ (by first | decide | exact xin_none (by decide) _))
          · exact fr_X12_condition_b51 fu g_unit g_part g_condition hf_unit hf_part hf_condition x1 x2 ih  _ (by repeat first | exact hm | refine xfr.setf ?_ (by first | decide | exact xin_none (by decide) _))
        · exact fr_X12_condition_b51 fu g_unit g_part g_condition hf_unit hf_part hf_condition x1 x2 ih  _ (by repeat first | exact hm | refine xfr.setf ?_ (by first | decide | exact xin_none (by decide) _))
      · exact Fr.ite (Fr.some (by repeat first | exact hm | refine xfr.setf ?_ (by first | decide | exact xin_none (by decide) _))) Fr.none
    · exact Fr.ite (Fr.some (by repeat first | exact hm | refine xfr.setf ?_ (by first | decide | exact xin_none (by decide) _))) Fr.none
theorem fr_X12_condition_b0 {M0 : xM} (fu : Nat) (g_unit : xM → Option (Int32 × xM)) (g_part : Int32 → Int32 → xM → Option (Int32 × xM)) (g_condition : Int32 → Int32 → xM → Option (Int32 × xM)) (hf_unit : ∀ (M : xM), Fr wr_X12_unit M Prod.snd (g_unit  M)) (hf_part : ∀ (a0 : Int32) (a1 : Int32) (M : xM), Fr wr_X12_part M Prod.snd (g_part a0 a1 M)) (hf_condition : ∀ (a0 : Int32) (a1 : Int32) (M : xM), Fr wr_X12_condition M Prod.snd (g_condition a0 a1 M)) (x1 : Int32) (x2 : Int32)   (M : xM) (hm : xfr wr_X12_condition M0 M) : Fr wr_X12_condition M0 Prod.snd (F_X12_condition fu g_unit g_part g_condition x1 x2  M) := by
  unfold F_X12_condition
  refine Fr.bind (hf_part _ _ _) (by decide) hm (fun q1 hm => ?_)
  exact fr_X12_condition_b7 fu g_unit g_part g_condition hf_unit hf_part hf_condition x1 x2  fu _ _ hm
theorem fr_X12_condition (fu : Nat) (g_unit : xM → Option (Int32 × xM)) (g_part : Int32 → Int32 → xM → Option (Int32 × xM)) (g_condition : Int32 → Int32 → xM → Option (Int32 × xM)) (hf_unit : ∀ (M : xM), Fr wr_X12_unit M Prod.snd (g_unit  M)) (hf_part : ∀ (a0 : Int32) (a1 : Int32) (M : xM), Fr wr_X12_part M Prod.snd (g_part a0 a1 M)) (hf_condition : ∀ (a0 : Int32) (a1 : Int32) (M : xM), Fr wr_X12_condition M Prod.snd (g_condition a0 a1 M)) (x1 : Int32) (x2 : Int32) (M : xM) : Fr wr_X12_condition M Prod.snd (F_X12_condition fu g_unit g_part g_condition x1 x2  M) := fr_X12_condition_b0 fu g_unit g_part g_condition hf_unit hf_part hf_condition x1 x2  M xfr.rf
theorem fr_R_X12_unit_part_condition (fu : Nat) : ∀ n : Nat, (∀ (M : xM), Fr wr_X12_unit M Prod.snd ((R_X12_unit_part_condition fu n).1 M)) ∧ (∀ (a0 : Int32) (a1 : Int32) (M : xM), Fr wr_X12_part M Prod.snd ((R_X12_unit_part_condition fu n).2.1 a0 a1 M)) ∧ (∀ (a0 : Int32) (a1 : Int32) (M : xM), Fr wr_X12_condition M Prod.snd ((R_X12_unit_part_condition fu n).2.2 a0 a1 M)) := by
  intro n
  induction n with
  | zero => exact ⟨fun _ => Fr.none, fun _ _ _ => Fr.none, fun _ _ _ => Fr.none⟩
  | succ n ih =>
    obtain ⟨h0, h1, h2⟩ := ih
    exact ⟨fun M => fr_X12_unit fu _ _ _ h0 h1 h2 M, fun a0 a1 M => fr_X12_part fu _ _ _ h0 h1 h2 a0 a1 M, fun a0 a1 M => fr_X12_condition fu _ _ _ h0 h1 h2 a0 a1 M⟩
theorem frT_X12_unit (fu : Nat) (M : xM) : Fr wr_X12_unit M Prod.snd (T_X12_unit fu M) := (fr_R_X12_unit_part_condition fu 30).1 M
theorem frT_X12_part (fu : Nat) (a0 : Int32) (a1 : Int32) (M : xM) : Fr wr_X12_part M Prod.snd (T_X12_part fu a0 a1 M) := (fr_R_X12_unit_part_condition fu 30).2.1 a0 a1 M
theorem frT_X12_condition (fu : Nat) (a0 : Int32) (a1 : Int32) (M : xM) : Fr wr_X12_condition M Prod.snd (T_X12_condition fu a0 a1 M) := (fr_R_X12_unit_part_condition fu 30).2.2 a0 a1 M
theorem fr_X12_clause_b134 {M0 : xM} (fu : Nat)    (x1 : Int32) (x2 : Int32) (x3 : Int32) (M : xM) (hm : xfr wr_X12_clause M0 M) : Fr wr_X12_clause M0 id (F_X12_clause_b134 fu x1 x2 x3 M) := by
  unfold F_X12_clause_b134
  refine Fr.ite ?_ ?_
  · refine Fr.ite ?_ ?_
    · refine Fr.ite ?_ ?_
      · refine Fr.ite ?_ ?_
        · exact Fr.somev (by repeat first | exact hm | refine xfr.setf ?_ (by first | decide | exact xin_none (by decide) _))
        · exact Fr.somev (by repeat first | exact hm | refine xfr.setf ?_ (by first | decide | exact xin_none (by decide) _))
      · exact Fr.somev (by repeat first | exact hm | refine xfr.setf ?_ (by first | decide | exact xin_none (by decide) _))
    · exact Fr.somev (by repeat first | exact hm | refine xfr.setf ?_ (by first | decide | exact xin_none (by decide) _))
  · exact Fr.somev (by repeat first | exact hm | refine xfr.setf ?_ (by first | decide | exact xin_none (by decide) _))
theorem fr_X12_clause_b64 {M0 : xM} (fu : Nat)    (x1 : Int32) (M : xM) (hm : xfr wr_X12_clause M0 M) : Fr wr_X12_clause M0 id (F_X12_clause_b64 fu x1 M) := by
  unfold F_X12_clause_b64
  refine Fr.bind (frT_X12_condition fu _ _ _) (by decide) hm (fun q1 hm => ?_)
  refine Fr.bind (fr_X12_takes fu _ _) (by decide) hm (fun q2 hm => ?_)
  refine Fr.ite ?_ ?_
  · exact Fr.somev hm
  · refine Fr.bind (frT_X12_sum fu  _) (by decide) hm (fun q3 hm => ?_)
    exact fr_X12_clause_b134 fu  _ _ _ _ hm
theorem fr_X12_clause_b0 {M0 : xM} (fu : Nat)     (M : xM) (hm : xfr wr_X12_clause M0 M) : Fr wr_X12_clause M0 id (F_X12_clause fu  M) := by
  unfold F_X12_clause
  refine Fr.bind (fr_X12_look fu  _) (by decide) (by repeat first | exact hm | refine xfr.setf ?_ (by first | decide | exact xin_none (by decide) _)) (fun q1 hm => ?_)
  refine Fr.ite ?_ ?_
  · refine Fr.bind (fr_X12_fails  _) (by decide) (by repeat first | exact hm | refine xfr.setf ?_ (by first | decide | exact xin_none (by decide) _)) (fun q9 hm => ?_)
    exact Fr.somev (by repeat first | exact hm | refine xfr.setf ?_ (by first | decide | exact xin_none (by decide) _))
  · refine Fr.bind (fr_X12_takes fu _ _) (by decide) (by repeat first | exact hm | refine xfr.setf ?_ (by first | decide | exact xin_none (by decide) _)) (fun q2 hm => ?_)
    refine Fr.ite ?_ ?_
    · exact Fr.somev (by repeat first | exact hm | refine xfr.setf ?_ (by first | decide | exact xin_none (by decide) _))
    · refine Fr.bind (fr_X12_look fu  _) (by decide) (by repeat first | exact hm | refine xfr.setf ?_ (by first | decide | exact xin_none (by decide) _)) (fun q3 hm => ?_)
      refine Fr.ite ?_ ?_
      · exact fr_X12_clause_b64 fu  _ _ (by repeat first | exact hm | refine xfr.setf ?_ (by first | decide | exact xin_none (by decide) _))
      · refine Fr.ite ?_ ?_
        · exact fr_X12_clause_b64 fu  _ _ (by repeat first | exact hm | refine xfr.setf ?_ (by first | decide | exact xin_none (by decide) _))
        · refine Fr.bind (frT_X12_sum fu  _) (by decide) (by repeat first | exact hm | refine xfr.setf ?_ (by first | decide | exact xin_none (by decide) _)) (fun q4 hm => ?_)
          refine Fr.ite ?_ ?_
          · refine Fr.bind (fr_X12_look fu  _) (by decide) (by repeat first | exact hm | refine xfr.setf ?_ (by first | decide | exact xin_none (by decide) _)) (fun q5 hm => ?_)
            refine Fr.ite ?_ ?_
            · exact fr_X12_clause_b134 fu  _ _ _ _ (by repeat first | exact hm | refine xfr.setf ?_ (by first | decide | exact xin_none (by decide) _))
            · refine Fr.bind (frT_X12_condition fu _ _ _) (by decide) (by repeat first | exact hm | refine xfr.setf ?_ (by first | decide | exact xin_none (by decide) _)) (fun q6 hm => ?_)
              refine Fr.bind (fr_X12_takes fu _ _) (by decide) (by repeat first | exact hm | refine xfr.setf ?_ (by first | decide | exact xin_none (by decide) _)) (fun q7 hm => ?_)
              refine Fr.ite ?_ ?_
              · exact Fr.somev (by repeat first | exact hm | refine xfr.setf ?_ (by first | decide | exact xin_none (by decide) _))
              · refine Fr.bind (frT_X12_sum fu  _) (by decide) (by repeat first | exact hm | refine xfr.setf ?_ (by first | decide | exact xin_none (by decide) _)) (fun q8 hm => ?_)
                exact fr_X12_clause_b134 fu  _ _ _ _ (by repeat first | exact hm | refine xfr.setf ?_ (by first | decide | exact xin_none (by decide) _))
          · exact fr_X12_clause_b134 fu  _ _ _ _ (by repeat first | exact hm | refine xfr.setf ?_ (by first | decide | exact xin_none (by decide) _))
theorem fr_X12_clause (fu : Nat)   (M : xM) : Fr wr_X12_clause M id (F_X12_clause fu   M) := fr_X12_clause_b0 fu  M xfr.rf
theorem fr_X12_goThrough_b84 {M0 : xM} (fu : Nat)  (r1 n1 : Nat) (x2 : Int32) (x3 : Int32)   (M : xM) (hm : xfr wr_X12_goThrough M0 M) : Fr wr_X12_goThrough M0 id (F_X12_goThrough_b84 fu r1 n1 x2 x3  M) := by
  unfold F_X12_goThrough_b84
  refine Fr.ite ?_ ?_
  · refine Fr.bind (fr_X12_look fu  _) (by decide) hm (fun q1 hm => ?_)
    refine Fr.ite ?_ ?_
    · exact Fr.somev hm
    · refine Fr.bind (fr_X12_fails  _) (by decide) hm (fun q2 hm => ?_)
      exact Fr.somev hm
  · exact Fr.somev hm
theorem fr_X12_goThrough_b50 {M0 : xM} (fu : Nat)  (r1 n1 : Nat) (x2 : Int32) (x3 : Int32)  : ∀ (n : Nat)  (M : xM), xfr wr_X12_goThrough M0 M → Fr wr_X12_goThrough M0 id (F_X12_goThrough_b50 fu r1 n1 x2 x3 n  M) := by
  intro n
  induction n with
  | zero =>
    intro  M hm
    exact Fr.none
  | succ n ih =>
    intro  M hm
    rw [F_X12_goThrough_b50]
    refine Fr.ite ?_ ?_
    · refine Fr.bind (fr_X12_look fu  _) (by decide) (by repeat first | exact hm | refine xfr.setf ?_ (by first | decide | exact xin_none (by decide) _)) (fun q1 hm => ?_)
      refine Fr.ite ?_ ?_
      · refine Fr.bind (fr_X12_clause fu  _) (by decide) (by repeat first | exact hm | refine xfr.setf ?_ (by first | decide | exact xin_none (by decide) _)) (fun q2 hm => ?_)
        exact ih  _ (by repeat first | exact hm | refine xfr.setf ?_ (by first | decide | exact xin_none (by decide) _))
      · exact fr_X12_goThrough_b84 fu r1 n1 x2 x3   _ (by repeat first | exact hm | refine xfr.setf ?_ (by first | decide | exact xin_none (by decide) _))
    · exact fr_X12_goThrough_b84 fu r1 n1 x2 x3   _ (by repeat first | exact hm | refine xfr.setf ?_ (by first | decide | exact xin_none (by decide) _))
theorem fr_X12_goThrough_b0 {M0 : xM} (fu : Nat)  (r1 n1 : Nat) (x2 : Int32) (x3 : Int32)   (M : xM) (hm : xfr wr_X12_goThrough M0 M) : Fr wr_X12_goThrough M0 id (F_X12_goThrough fu r1 n1 x2 x3  M) := by
  unfold F_X12_goThrough
  refine Fr.bind (fr_X12_clause fu  _) (by decide) (by repeat first | exact hm | refine xfr.setf ?_ (by first | decide | exact xin_none (by decide) _)) (fun q1 hm => ?_)
  exact fr_X12_goThrough_b50 fu r1 n1 x2 x3  fu  _ (by repeat first | exact hm | refine xfr.setf ?_ (by first | decide | exact xin_none (by decide) _))
theorem fr_X12_goThrough (fu : Nat)  (r1 n1 : Nat) (x2 : Int32) (x3 : Int32) (M : xM) : Fr wr_X12_goThrough M id (F_X12_goThrough fu r1 n1 x2 x3  M) := fr_X12_goThrough_b0 fu r1 n1 x2 x3  M xfr.rf
theorem fr_X12_fault_b0 {M0 : xM} (fu : Nat)     (M : xM) (hm : xfr wr_X12_fault M0 M) : Fr wr_X12_fault M0 Prod.snd (F_X12_fault fu  M) := by
  unfold F_X12_fault
  refine Fr.bind (fr_X12_goThrough fu _ _ _ _ _) (by decide) (by repeat first | exact hm | refine xfr.setf ?_ (by first | decide | exact xin_none (by decide) _)) (fun q1 hm => ?_)
  exact Fr.some (by repeat first | exact hm | refine xfr.setf ?_ (by first | decide | exact xin_none (by decide) _))
theorem fr_X12_fault (fu : Nat)   (M : xM) : Fr wr_X12_fault M Prod.snd (F_X12_fault fu   M) := fr_X12_fault_b0 fu  M xfr.rf
theorem fr_X12_law_b40 {M0 : xM} (fu : Nat)    : ∀ (n : Nat) (x1 : Int32) (M : xM), xfr wr_X12_law M0 M → Fr wr_X12_law M0 Prod.snd (F_X12_law_b40 fu n x1 M) := by
  intro n
  induction n with
  | zero =>
    intro x1 M hm
    exact Fr.none
  | succ n ih =>
    intro x1 M hm
    rw [F_X12_law_b40]
    refine Fr.ite ?_ ?_
    · refine Fr.ite Fr.none ?_
      exact Fr.some (by repeat first | exact hm | refine xfr.setf ?_ (by first | decide | exact xin_none (by decide) _))
    · refine Fr.ite Fr.none ?_
      refine Fr.ite Fr.none ?_
      exact ih _ _ (by repeat first | exact hm | refine xfr.setf ?_ (by first | decide | exact xin_none (by decide) _))
theorem fr_X12_law_b0 {M0 : xM} (fu : Nat)     (M : xM) (hm : xfr wr_X12_law M0 M) : Fr wr_X12_law M0 Prod.snd (F_X12_law fu  M) := by
  unfold F_X12_law
  refine Fr.ite ?_ ?_
  · exact Fr.some (by repeat first | exact hm | refine xfr.setf ?_ (by first | decide | exact xin_none (by decide) _))
  · refine Fr.bind (fr_X12_goThrough fu _ _ _ _ _) (by decide) (by repeat first | exact hm | refine xfr.setf ?_ (by first | decide | exact xin_none (by decide) _)) (fun q1 hm => ?_)
    refine Fr.ite ?_ ?_
    · exact fr_X12_law_b40 fu  fu _ _ (by repeat first | exact hm | refine xfr.setf ?_ (by first | decide | exact xin_none (by decide) _))
    · exact Fr.some (by repeat first | exact hm | refine xfr.setf ?_ (by first | decide | exact xin_none (by decide) _))
theorem fr_X12_law (fu : Nat)   (M : xM) : Fr wr_X12_law M Prod.snd (F_X12_law fu   M) := fr_X12_law_b0 fu  M xfr.rf
theorem fr_X12_use_b26 {M0 : xM}  (x1 : Int32)   (M : xM) (hm : xfr wr_X12_use M0 M) : Fr wr_X12_use M0 Prod.snd (F_X12_use_b26 x1  M) := by
  unfold F_X12_use_b26
  exact Fr.some (by repeat first | exact hm | refine xfr.setf ?_ (by first | decide | exact xin_none (by decide) _))
theorem fr_X12_use_b0 {M0 : xM}  (x1 : Int32)   (M : xM) (hm : xfr wr_X12_use M0 M) : Fr wr_X12_use M0 Prod.snd (F_X12_use x1  M) := by
  unfold F_X12_use
  refine Fr.ite ?_ ?_
  · exact fr_X12_use_b26 x1   _ (by repeat first | exact hm | refine xfr.setf ?_ (by first | decide | exact xin_none (by decide) _))
  · refine Fr.ite ?_ ?_
    · exact Fr.some (by repeat first | exact hm | refine xfr.setf ?_ (by first | decide | exact xin_none (by decide) _))
    · exact fr_X12_use_b26 x1   _ (by repeat first | exact hm | refine xfr.setf ?_ (by first | decide | exact xin_none (by decide) _))
theorem fr_X12_use  (x1 : Int32) (M : xM) : Fr wr_X12_use M Prod.snd (F_X12_use  x1  M) := fr_X12_use_b0 x1  M xfr.rf
theorem fr_X12_machine_b0 {M0 : xM}  (x1 : Int32) (x2 : Int32) (x3 : Int32) (x4 : Int32) (x5 : Int32)   (M : xM) (hm : xfr wr_X12_machine M0 M) : Fr wr_X12_machine M0 Prod.snd (F_X12_machine x1 x2 x3 x4 x5  M) := by
  unfold F_X12_machine
  refine Fr.ite ?_ ?_
  · exact Fr.some (by repeat first | exact hm | refine xfr.setf ?_ (by first | decide | exact xin_none (by decide) _))
  · refine Fr.ite ?_ ?_
    · exact Fr.some (by repeat first | exact hm | refine xfr.setf ?_ (by first | decide | exact xin_none (by decide) _))
    · refine Fr.ite ?_ ?_
      · exact Fr.some (by repeat first | exact hm | refine xfr.setf ?_ (by first | decide | exact xin_none (by decide) _))
      · refine Fr.ite ?_ ?_
        · exact Fr.some (by repeat first | exact hm | refine xfr.setf ?_ (by first | decide | exact xin_none (by decide) _))
        · refine Fr.ite ?_ ?_
          · exact Fr.some (by repeat first | exact hm | refine xfr.setf ?_ (by first | decide | exact xin_none (by decide) _))
          · refine Fr.ite ?_ ?_
            · exact Fr.some (by repeat first | exact hm | refine xfr.setf ?_ (by first | decide | exact xin_none (by decide) _))
            · refine Fr.ite Fr.none ?_
              refine Fr.ite Fr.none ?_
              refine Fr.ite Fr.none ?_
              refine Fr.ite Fr.none ?_
              refine Fr.ite Fr.none ?_
              exact Fr.some (by repeat first | exact hm | refine xfr.setf ?_ (by first | decide | exact xin_none (by decide) _))
theorem fr_X12_machine  (x1 : Int32) (x2 : Int32) (x3 : Int32) (x4 : Int32) (x5 : Int32) (M : xM) : Fr wr_X12_machine M Prod.snd (F_X12_machine  x1 x2 x3 x4 x5  M) := fr_X12_machine_b0 x1 x2 x3 x4 x5  M xfr.rf
theorem fr_X12_votersBy_b16 {M0 : xM} (fu : Nat)  (x1 : Int32) (x2 : Int32)  : ∀ (n : Nat) (x3 : Int32) (M : xM), xfr wr_X12_votersBy M0 M → Fr wr_X12_votersBy M0 Prod.snd (F_X12_votersBy_b16 fu x1 x2 n x3 M) := by
  intro n
  induction n with
  | zero =>
    intro x3 M hm
    exact Fr.none
  | succ n ih =>
    intro x3 M hm
    rw [F_X12_votersBy_b16]
    refine Fr.ite ?_ ?_
    · refine Fr.ite Fr.none ?_
      refine Fr.bind (fr_X12_goThrough fu _ _ _ _ _) (by decide) (by repeat first | exact hm | refine xfr.setf ?_ (by first | decide | exact xin_none (by decide) _)) (fun q1 hm => ?_)
      exact Fr.some (by repeat first | exact hm | refine xfr.setf ?_ (by first | decide | exact xin_none (by decide) _))
    · refine Fr.ite Fr.none ?_
      refine Fr.ite Fr.none ?_
      refine Fr.ite Fr.none ?_
      exact ih _ _ (by repeat first | exact hm | refine xfr.setf ?_ (by first | decide | exact xin_none (by decide) _))
theorem fr_X12_votersBy_b0 {M0 : xM} (fu : Nat)  (x1 : Int32) (x2 : Int32)   (M : xM) (hm : xfr wr_X12_votersBy M0 M) : Fr wr_X12_votersBy M0 Prod.snd (F_X12_votersBy fu x1 x2  M) := by
  unfold F_X12_votersBy
  refine Fr.ite ?_ ?_
  · refine Fr.ite Fr.none ?_
    exact Fr.some hm
  · exact fr_X12_votersBy_b16 fu x1 x2  fu _ _ hm
theorem fr_X12_votersBy (fu : Nat)  (x1 : Int32) (x2 : Int32) (M : xM) : Fr wr_X12_votersBy M Prod.snd (F_X12_votersBy fu x1 x2  M) := fr_X12_votersBy_b0 fu x1 x2  M xfr.rf
theorem fr_X12_voters_b0 {M0 : xM} (fu : Nat)  (x1 : Int32)   (M : xM) (hm : xfr wr_X12_voters M0 M) : Fr wr_X12_voters M0 Prod.snd (F_X12_voters fu x1  M) := by
  unfold F_X12_voters
  refine Fr.ite ?_ ?_
  · exact Fr.some (by repeat first | exact hm | refine xfr.setf ?_ (by first | decide | exact xin_none (by decide) _))
  · refine Fr.bind (fr_X12_votersBy fu _ _ _) (by decide) (by repeat first | exact hm | refine xfr.setf ?_ (by first | decide | exact xin_none (by decide) _)) (fun q1 hm => ?_)
    exact Fr.some (by repeat first | exact hm | refine xfr.setf ?_ (by first | decide | exact xin_none (by decide) _))
theorem fr_X12_voters (fu : Nat)  (x1 : Int32) (M : xM) : Fr wr_X12_voters M Prod.snd (F_X12_voters fu x1  M) := fr_X12_voters_b0 fu x1  M xfr.rf
theorem fr_X12_agree_b54 {M0 : xM} (fu : Nat)  (x1 : Int32) {k19 : Int32 → Int32 → xM → Option (Int32 × xM)} (hk19 : ∀ (b0 : Int32) (b1 : Int32) (M : xM), xfr wr_X12_agree M0 M → Fr wr_X12_agree M0 Prod.snd (k19 b0 b1 M)) (x3 : Int32) (s0 : Int32) (s1 : Int32) (M : xM) (hm : xfr wr_X12_agree M0 M) : Fr wr_X12_agree M0 Prod.snd (F_X12_agree_b54 fu x1 k19 x3 s0 s1 M) := by
  unfold F_X12_agree_b54
  exact hk19 _ _ _ hm
theorem fr_X12_agree_b19 {M0 : xM} (fu : Nat)  (x1 : Int32)  : ∀ (n : Nat) (x2 : Int32) (x3 : Int32) (M : xM), xfr wr_X12_agree M0 M → Fr wr_X12_agree M0 Prod.snd (F_X12_agree_b19 fu x1 n x2 x3 M) := by
  intro n
  induction n with
  | zero =>
    intro x2 x3 M hm
    exact Fr.none
  | succ n ih =>
    intro x2 x3 M hm
    rw [F_X12_agree_b19]
    refine Fr.ite ?_ ?_
    · exact Fr.some hm
    · refine Fr.bind (fr_X12_votersBy fu _ _ _) (by decide) hm (fun q1 hm => ?_)
      refine Fr.ite Fr.none ?_
      refine Fr.ite ?_ ?_
      · exact fr_X12_agree_b54 fu x1 ih _ _ _ _ hm
      · exact fr_X12_agree_b54 fu x1 ih _ _ _ _ hm
theorem fr_X12_agree_b0 {M0 : xM} (fu : Nat)  (x1 : Int32)   (M : xM) (hm : xfr wr_X12_agree M0 M) : Fr wr_X12_agree M0 Prod.snd (F_X12_agree fu x1  M) := by
  unfold F_X12_agree
  refine Fr.ite ?_ ?_
  · exact Fr.some (by repeat first | exact hm | refine xfr.setf ?_ (by first | decide | exact xin_none (by decide) _))
  · exact fr_X12_agree_b19 fu x1  fu _ _ _ (by repeat first | exact hm | refine xfr.setf ?_ (by first | decide | exact xin_none (by decide) _))
theorem fr_X12_agree (fu : Nat)  (x1 : Int32) (M : xM) : Fr wr_X12_agree M Prod.snd (F_X12_agree fu x1  M) := fr_X12_agree_b0 fu x1  M xfr.rf
theorem fr_X12_show_b0 {M0 : xM}  (x1 : Int32) (x2 : Int32) (x3 : Int32)   (M : xM) (hm : xfr wr_X12_show M0 M) : Fr wr_X12_show M0 Prod.snd (F_X12_show x1 x2 x3  M) := by
  unfold F_X12_show
  refine Fr.ite ?_ ?_
  · exact Fr.some (by repeat first | exact hm | refine xfr.setf ?_ (by first | decide | exact xin_none (by decide) _))
  · refine Fr.ite ?_ ?_
    · exact Fr.some (by repeat first | exact hm | refine xfr.setf ?_ (by first | decide | exact xin_none (by decide) _))
    · refine Fr.ite ?_ ?_
      · exact Fr.some (by repeat first | exact hm | refine xfr.setf ?_ (by first | decide | exact xin_none (by decide) _))
      · refine Fr.ite Fr.none ?_
        exact Fr.some (by repeat first | exact hm | refine xfr.setf ?_ (by first | decide | exact xin_none (by decide) _))
theorem fr_X12_show  (x1 : Int32) (x2 : Int32) (x3 : Int32) (M : xM) : Fr wr_X12_show M Prod.snd (F_X12_show  x1 x2 x3  M) := fr_X12_show_b0 x1 x2 x3  M xfr.rf
theorem fr_X12_trouble_b124 {M0 : xM}  (x1 : Int32) (x2 : Int32) (x3 : Int32) (x4 : Int32)  (s0 : Int32) (M : xM) (hm : xfr wr_X12_trouble M0 M) : Fr wr_X12_trouble M0 Prod.snd (F_X12_trouble_b124 x1 x2 x3 x4 s0 M) := by
  unfold F_X12_trouble_b124
  refine Fr.ite ?_ ?_
  · exact Fr.some (by repeat first | exact hm | refine xfr.setf ?_ (by first | decide | exact xin_none (by decide) _))
  · refine Fr.ite Fr.none ?_
    refine Fr.ite Fr.none ?_
    refine Fr.ite Fr.none ?_
    refine Fr.ite Fr.none ?_
    refine Fr.ite Fr.none ?_
    refine Fr.ite Fr.none ?_
    refine Fr.ite Fr.none ?_
    exact Fr.some (by repeat first | exact hm | refine xfr.setf ?_ (by first | decide | exact xin_none (by decide) _))
theorem fr_X12_trouble_b119 {M0 : xM}  (x1 : Int32) (x2 : Int32) (x3 : Int32) (x4 : Int32)   (M : xM) (hm : xfr wr_X12_trouble M0 M) : Fr wr_X12_trouble M0 Prod.snd (F_X12_trouble_b119 x1 x2 x3 x4  M) := by
  unfold F_X12_trouble_b119
  exact fr_X12_trouble_b124 x1 x2 x3 x4  _ _ hm
theorem fr_X12_trouble_b123 {M0 : xM}  (x1 : Int32) (x2 : Int32) (x3 : Int32) (x4 : Int32)   (M : xM) (hm : xfr wr_X12_trouble M0 M) : Fr wr_X12_trouble M0 Prod.snd (F_X12_trouble_b123 x1 x2 x3 x4  M) := by
  unfold F_X12_trouble_b123
  exact fr_X12_trouble_b124 x1 x2 x3 x4  _ _ hm
theorem fr_X12_trouble_b0 {M0 : xM}  (x1 : Int32) (x2 : Int32) (x3 : Int32) (x4 : Int32)   (M : xM) (hm : xfr wr_X12_trouble M0 M) : Fr wr_X12_trouble M0 Prod.snd (F_X12_trouble x1 x2 x3 x4  M) := by
  unfold F_X12_trouble
  refine Fr.ite ?_ ?_
  · exact Fr.some (by repeat first | exact hm | refine xfr.setf ?_ (by first | decide | exact xin_none (by decide) _))
  · refine Fr.ite Fr.none ?_
    refine Fr.ite ?_ ?_
    · exact Fr.some (by repeat first | exact hm | refine xfr.setf ?_ (by first | decide | exact xin_none (by decide) _))
    · refine Fr.ite ?_ ?_
      · exact Fr.some (by repeat first | exact hm | refine xfr.setf ?_ (by first | decide | exact xin_none (by decide) _))
      · refine Fr.ite ?_ ?_
        · exact fr_X12_trouble_b124 x1 x2 x3 x4  _ _ (by repeat first | exact hm | refine xfr.setf ?_ (by first | decide | exact xin_none (by decide) _))
        · refine Fr.ite ?_ ?_
          · exact fr_X12_trouble_b123 x1 x2 x3 x4   _ (by repeat first | exact hm | refine xfr.setf ?_ (by first | decide | exact xin_none (by decide) _))
          · refine Fr.ite ?_ ?_
            · refine Fr.ite ?_ ?_
              · exact fr_X12_trouble_b123 x1 x2 x3 x4   _ (by repeat first | exact hm | refine xfr.setf ?_ (by first | decide | exact xin_none (by decide) _))
              · exact fr_X12_trouble_b119 x1 x2 x3 x4   _ (by repeat first | exact hm | refine xfr.setf ?_ (by first | decide | exact xin_none (by decide) _))
            · refine Fr.ite ?_ ?_
              · refine Fr.ite ?_ ?_
                · exact fr_X12_trouble_b123 x1 x2 x3 x4   _ (by repeat first | exact hm | refine xfr.setf ?_ (by first | decide | exact xin_none (by decide) _))
                · refine Fr.ite ?_ ?_
                  · exact fr_X12_trouble_b123 x1 x2 x3 x4   _ (by repeat first | exact hm | refine xfr.setf ?_ (by first | decide | exact xin_none (by decide) _))
                  · exact fr_X12_trouble_b119 x1 x2 x3 x4   _ (by repeat first | exact hm | refine xfr.setf ?_ (by first | decide | exact xin_none (by decide) _))
              · refine Fr.ite ?_ ?_
                · exact fr_X12_trouble_b119 x1 x2 x3 x4   _ (by repeat first | exact hm | refine xfr.setf ?_ (by first | decide | exact xin_none (by decide) _))
                · refine Fr.ite ?_ ?_
                  · exact fr_X12_trouble_b123 x1 x2 x3 x4   _ (by repeat first | exact hm | refine xfr.setf ?_ (by first | decide | exact xin_none (by decide) _))
                  · exact fr_X12_trouble_b119 x1 x2 x3 x4   _ (by repeat first | exact hm | refine xfr.setf ?_ (by first | decide | exact xin_none (by decide) _))
theorem fr_X12_trouble  (x1 : Int32) (x2 : Int32) (x3 : Int32) (x4 : Int32) (M : xM) : Fr wr_X12_trouble M Prod.snd (F_X12_trouble  x1 x2 x3 x4  M) := fr_X12_trouble_b0 x1 x2 x3 x4  M xfr.rf
theorem fr_X12_lay_b247 {M0 : xM} (fu : Nat)  (x1 : Int32) (x2 : Int32) {k56 : Int32 → xM → Option (xM)} (hk56 : ∀ (b0 : Int32) (M : xM), xfr wr_X12_lay M0 M → Fr wr_X12_lay M0 id (k56 b0 M)) (x3 : Int32) (M : xM) (hm : xfr wr_X12_lay M0 M) : Fr wr_X12_lay M0 id (F_X12_lay_b247 fu x1 x2 k56 x3 M) := by
  unfold F_X12_lay_b247
  exact hk56 _ _ hm
theorem fr_X12_lay_b169 {M0 : xM} (fu : Nat)  (x1 : Int32) (x2 : Int32) {k56 : Int32 → xM → Option (xM)} (hk56 : ∀ (b0 : Int32) (M : xM), xfr wr_X12_lay M0 M → Fr wr_X12_lay M0 id (k56 b0 M)) (x3 : Int32) (s0 : Int32) (s1 : Int32) (s2 : Int32) (M : xM) (hm : xfr wr_X12_lay M0 M) : Fr wr_X12_lay M0 id (F_X12_lay_b169 fu x1 x2 k56 x3 s0 s1 s2 M) := by
  unfold F_X12_lay_b169
  refine Fr.ite Fr.none ?_
  exact fr_X12_lay_b247 fu x1 x2 hk56 _ _ (by repeat first | exact hm | refine xfr.setf ?_ (by first | decide | exact xin_none (by decide) _))
theorem fr_X12_lay_b56 {M0 : xM} (fu : Nat)  (x1 : Int32) (x2 : Int32)  : ∀ (n : Nat) (x3 : Int32) (M : xM), xfr wr_X12_lay M0 M → Fr wr_X12_lay M0 id (F_X12_lay_b56 fu x1 x2 n x3 M) := by
  intro n
  induction n with
  | zero =>
    intro x3 M hm
    exact Fr.none
  | succ n ih =>
    intro x3 M hm
    rw [F_X12_lay_b56]
    refine Fr.ite Fr.none ?_
    refine Fr.ite ?_ ?_
    · exact Fr.somev (by repeat first | exact hm | refine xfr.setf ?_ (by first | decide | exact xin_none (by decide) _))
    · refine Fr.ite ?_ ?_
      · exact fr_X12_lay_b247 fu x1 x2 ih _ _ (by repeat first | exact hm | refine xfr.setf ?_ (by first | decide | exact xin_none (by decide) _))
      · refine Fr.ite Fr.none ?_
        refine Fr.ite Fr.none ?_
        refine Fr.ite Fr.none ?_
        refine Fr.ite ?_ ?_
        · refine Fr.ite Fr.none ?_
          refine Fr.ite ?_ ?_
          · exact fr_X12_lay_b169 fu x1 x2 ih _ _ _ _ _ (by repeat first | exact hm | refine xfr.setf ?_ (by first | decide | exact xin_none (by decide) _))
          · exact fr_X12_lay_b169 fu x1 x2 ih _ _ _ _ _ (by repeat first | exact hm | refine xfr.setf ?_ (by first | decide | exact xin_none (by decide) _))
        · refine Fr.ite ?_ ?_
          · refine Fr.ite Fr.none ?_
            refine Fr.ite Fr.none ?_
            refine Fr.ite Fr.none ?_
            refine Fr.ite Fr.none ?_
            exact fr_X12_lay_b247 fu x1 x2 ih _ _ (by repeat first | exact hm | refine xfr.setf ?_ (by first | decide | exact xin_none (by decide) _))
          · refine Fr.ite ?_ ?_
            · refine Fr.ite Fr.none ?_
              exact fr_X12_lay_b247 fu x1 x2 ih _ _ (by repeat first | exact hm | refine xfr.setf ?_ (by first | decide | exact xin_none (by decide) _))
            · refine Fr.ite ?_ ?_
              · refine Fr.ite Fr.none ?_
                exact fr_X12_lay_b247 fu x1 x2 ih _ _ (by repeat first | exact hm | refine xfr.setf ?_ (by first | decide | exact xin_none (by decide) _))
              · exact fr_X12_lay_b247 fu x1 x2 ih _ _ (by repeat first | exact hm | refine xfr.setf ?_ (by first | decide | exact xin_none (by decide) _))
theorem fr_X12_lay_b12 {M0 : xM} (fu : Nat)  (x1 : Int32) (x2 : Int32)  : ∀ (n : Nat) (x3 : Int32) (M : xM), xfr wr_X12_lay M0 M → Fr wr_X12_lay M0 id (F_X12_lay_b12 fu x1 x2 n x3 M) := by
  intro n
  induction n with
  | zero =>
    intro x3 M hm
    exact Fr.none
  | succ n ih =>
    intro x3 M hm
    rw [F_X12_lay_b12]
    refine Fr.ite ?_ ?_
    · exact fr_X12_lay_b56 fu x1 x2  fu _ _ (by repeat first | exact hm | refine xfr.setf ?_ (by first | decide | exact xin_none (by decide) _))
    · refine Fr.ite Fr.none ?_
      refine Fr.ite Fr.none ?_
      refine Fr.ite Fr.none ?_
      refine Fr.ite Fr.none ?_
      exact ih _ _ (by repeat first | exact hm | refine xfr.setf ?_ (by first | decide | exact xin_none (by decide) _))
theorem fr_X12_lay_b0 {M0 : xM} (fu : Nat)  (x1 : Int32) (x2 : Int32)   (M : xM) (hm : xfr wr_X12_lay M0 M) : Fr wr_X12_lay M0 id (F_X12_lay fu x1 x2  M) := by
  unfold F_X12_lay
  exact fr_X12_lay_b12 fu x1 x2  fu _ _ (by repeat first | exact hm | refine xfr.setf ?_ (by first | decide | exact xin_none (by decide) _))
theorem fr_X12_lay (fu : Nat)  (x1 : Int32) (x2 : Int32) (M : xM) : Fr wr_X12_lay M id (F_X12_lay fu x1 x2  M) := fr_X12_lay_b0 fu x1 x2  M xfr.rf
theorem fr_X12_shown_b20 {M0 : xM}  (x1 : Int32) (x2 : Int32)  (s0 : Int32) (s1 : Int32) (M : xM) (hm : xfr wr_X12_shown M0 M) : Fr wr_X12_shown M0 Prod.snd (F_X12_shown_b20 x1 x2 s0 s1 M) := by
  unfold F_X12_shown_b20
  refine Fr.ite Fr.none ?_
  refine Fr.ite Fr.none ?_
  refine Fr.ite Fr.none ?_
  exact Fr.some hm
theorem fr_X12_shown_b0 {M0 : xM}  (x1 : Int32) (x2 : Int32)   (M : xM) (hm : xfr wr_X12_shown M0 M) : Fr wr_X12_shown M0 Prod.snd (F_X12_shown x1 x2  M) := by
  unfold F_X12_shown
  refine Fr.ite Fr.none ?_
  refine Fr.ite Fr.none ?_
  refine Fr.ite ?_ ?_
  · exact fr_X12_shown_b20 x1 x2  _ _ _ hm
  · exact fr_X12_shown_b20 x1 x2  _ _ _ hm
theorem fr_X12_shown  (x1 : Int32) (x2 : Int32) (M : xM) : Fr wr_X12_shown M Prod.snd (F_X12_shown  x1 x2  M) := fr_X12_shown_b0 x1 x2  M xfr.rf
theorem fr_X12_isTold_b0 {M0 : xM}  (x1 : Int32) (x2 : Int32)   (M : xM) (hm : xfr wr_X12_isTold M0 M) : Fr wr_X12_isTold M0 Prod.snd (F_X12_isTold x1 x2  M) := by
  unfold F_X12_isTold
  refine Fr.ite Fr.none ?_
  refine Fr.bind (fr_X12_shown _ _ _) (by decide) hm (fun q1 hm => ?_)
  refine Fr.ite Fr.none ?_
  refine Fr.ite ?_ ?_
  · exact Fr.some hm
  · exact Fr.some hm
theorem fr_X12_isTold  (x1 : Int32) (x2 : Int32) (M : xM) : Fr wr_X12_isTold M Prod.snd (F_X12_isTold  x1 x2  M) := fr_X12_isTold_b0 x1 x2  M xfr.rf
theorem fr_X12_greatest_b9 {M0 : xM} (fu : Nat)  (x1 : Int32) (x2 : Int32)  : ∀ (n : Nat) (x3 : Int32) (M : xM), xfr wr_X12_greatest M0 M → Fr wr_X12_greatest M0 Prod.snd (F_X12_greatest_b9 fu x1 x2 n x3 M) := by
  intro n
  induction n with
  | zero =>
    intro x3 M hm
    exact Fr.none
  | succ n ih =>
    intro x3 M hm
    rw [F_X12_greatest_b9]
    refine Fr.ite ?_ ?_
    · exact Fr.some hm
    · refine Fr.bind (fr_X12_isTold _ _ _) (by decide) hm (fun q1 hm => ?_)
      refine Fr.ite ?_ ?_
      · exact ih _ _ hm
      · exact Fr.some hm
theorem fr_X12_greatest_b0 {M0 : xM} (fu : Nat)  (x1 : Int32) (x2 : Int32)   (M : xM) (hm : xfr wr_X12_greatest M0 M) : Fr wr_X12_greatest M0 Prod.snd (F_X12_greatest fu x1 x2  M) := by
  unfold F_X12_greatest
  exact fr_X12_greatest_b9 fu x1 x2  fu _ _ hm
theorem fr_X12_greatest (fu : Nat)  (x1 : Int32) (x2 : Int32) (M : xM) : Fr wr_X12_greatest M Prod.snd (F_X12_greatest fu x1 x2  M) := fr_X12_greatest_b0 fu x1 x2  M xfr.rf
theorem fr_X12_sumOfLeast_b33 {M0 : xM} (fu : Nat)  (x1 : Int32) {k4 : Int32 → Int32 → xM → Option (Int32 × xM)} (hk4 : ∀ (b0 : Int32) (b1 : Int32) (M : xM), xfr wr_X12_sumOfLeast M0 M → Fr wr_X12_sumOfLeast M0 Prod.snd (k4 b0 b1 M)) (x3 : Int32) (s0 : Int32) (s1 : Int32) (M : xM) (hm : xfr wr_X12_sumOfLeast M0 M) : Fr wr_X12_sumOfLeast M0 Prod.snd (F_X12_sumOfLeast_b33 fu x1 k4 x3 s0 s1 M) := by
  unfold F_X12_sumOfLeast_b33
  exact hk4 _ _ _ hm
theorem fr_X12_sumOfLeast_b4 {M0 : xM} (fu : Nat)  (x1 : Int32)  : ∀ (n : Nat) (x2 : Int32) (x3 : Int32) (M : xM), xfr wr_X12_sumOfLeast M0 M → Fr wr_X12_sumOfLeast M0 Prod.snd (F_X12_sumOfLeast_b4 fu x1 n x2 x3 M) := by
  intro n
  induction n with
  | zero =>
    intro x2 x3 M hm
    exact Fr.none
  | succ n ih =>
    intro x2 x3 M hm
    rw [F_X12_sumOfLeast_b4]
    refine Fr.ite ?_ ?_
    · exact Fr.some hm
    · refine Fr.ite Fr.none ?_
      refine Fr.ite ?_ ?_
      · refine Fr.ite Fr.none ?_
        exact fr_X12_sumOfLeast_b33 fu x1 ih _ _ _ _ hm
      · exact fr_X12_sumOfLeast_b33 fu x1 ih _ _ _ _ hm
theorem fr_X12_sumOfLeast_b0 {M0 : xM} (fu : Nat)  (x1 : Int32)   (M : xM) (hm : xfr wr_X12_sumOfLeast M0 M) : Fr wr_X12_sumOfLeast M0 Prod.snd (F_X12_sumOfLeast fu x1  M) := by
  unfold F_X12_sumOfLeast
  exact fr_X12_sumOfLeast_b4 fu x1  fu _ _ _ hm
theorem fr_X12_sumOfLeast (fu : Nat)  (x1 : Int32) (M : xM) : Fr wr_X12_sumOfLeast M Prod.snd (F_X12_sumOfLeast fu x1  M) := fr_X12_sumOfLeast_b0 fu x1  M xfr.rf
theorem fr_X12_boundOf_b0 {M0 : xM}  (x1 : Int32)   (M : xM) (hm : xfr wr_X12_boundOf M0 M) : Fr wr_X12_boundOf M0 Prod.snd (F_X12_boundOf x1  M) := by
  unfold F_X12_boundOf
  refine Fr.ite ?_ ?_
  · refine Fr.ite Fr.none ?_
    exact Fr.some hm
  · exact Fr.some hm
theorem fr_X12_boundOf  (x1 : Int32) (M : xM) : Fr wr_X12_boundOf M Prod.snd (F_X12_boundOf  x1  M) := fr_X12_boundOf_b0 x1  M xfr.rf
theorem fr_X12_fits_b104 {M0 : xM} (fu : Nat)  (x1 : Int32) (x2 : Int32) {k21 : Int32 → xM → Option (Int32 × xM)} (hk21 : ∀ (b0 : Int32) (M : xM), xfr wr_X12_fits M0 M → Fr wr_X12_fits M0 Prod.snd (k21 b0 M)) (x3 : Int32) (M : xM) (hm : xfr wr_X12_fits M0 M) : Fr wr_X12_fits M0 Prod.snd (F_X12_fits_b104 fu x1 x2 k21 x3 M) := by
  unfold F_X12_fits_b104
  exact hk21 _ _ hm
theorem fr_X12_fits_b89 {M0 : xM} (fu : Nat)  (x1 : Int32) (x2 : Int32) {k21 : Int32 → xM → Option (Int32 × xM)} (hk21 : ∀ (b0 : Int32) (M : xM), xfr wr_X12_fits M0 M → Fr wr_X12_fits M0 Prod.snd (k21 b0 M)) (x3 : Int32) (M : xM) (hm : xfr wr_X12_fits M0 M) : Fr wr_X12_fits M0 Prod.snd (F_X12_fits_b89 fu x1 x2 k21 x3 M) := by
  unfold F_X12_fits_b89
  refine Fr.ite Fr.none ?_
  refine Fr.ite ?_ ?_
  · exact fr_X12_fits_b104 fu x1 x2 hk21 _ _ hm
  · exact Fr.some hm
theorem fr_X12_fits_b49 {M0 : xM} (fu : Nat)  (x1 : Int32) (x2 : Int32) {k21 : Int32 → xM → Option (Int32 × xM)} (hk21 : ∀ (b0 : Int32) (M : xM), xfr wr_X12_fits M0 M → Fr wr_X12_fits M0 Prod.snd (k21 b0 M)) : ∀ (n : Nat) (x3 : Int32) (M : xM), xfr wr_X12_fits M0 M → Fr wr_X12_fits M0 Prod.snd (F_X12_fits_b49 fu x1 x2 k21 n x3 M) := by
  intro n
  induction n with
  | zero =>
    intro x3 M hm
    exact Fr.none
  | succ n ih =>
    intro x3 M hm
    rw [F_X12_fits_b49]
    refine Fr.ite Fr.none ?_
    refine Fr.ite ?_ ?_
    · exact fr_X12_fits_b89 fu x1 x2 hk21 _ _ (by repeat first | exact hm | refine xfr.setf ?_ (by first | decide | exact xin_none (by decide) _))
    · refine Fr.ite Fr.none ?_
      refine Fr.bind (fr_X12_isTold _ _ _) (by decide) (by repeat first | exact hm | refine xfr.setf ?_ (by first | decide | exact xin_none (by decide) _)) (fun q1 hm => ?_)
      refine Fr.ite ?_ ?_
      · refine Fr.ite Fr.none ?_
        refine Fr.ite Fr.none ?_
        exact ih _ _ (by repeat first | exact hm | refine xfr.setf ?_ (by first | decide | exact xin_none (by decide) _))
      · exact fr_X12_fits_b89 fu x1 x2 hk21 _ _ (by repeat first | exact hm | refine xfr.setf ?_ (by first | decide | exact xin_none (by decide) _))
theorem fr_X12_fits_b112 {M0 : xM} (fu : Nat)  (x1 : Int32) (x2 : Int32)  : ∀ (n : Nat) (x3 : Int32) (M : xM), xfr wr_X12_fits M0 M → Fr wr_X12_fits M0 Prod.snd (F_X12_fits_b112 fu x1 x2 n x3 M) := by
  intro n
  induction n with
  | zero =>
    intro x3 M hm
    exact Fr.none
  | succ n ih =>
    intro x3 M hm
    rw [F_X12_fits_b112]
    refine Fr.ite ?_ ?_
    · exact Fr.some hm
    · refine Fr.bind (fr_X12_sumOfLeast fu _ _) (by decide) hm (fun q1 hm => ?_)
      refine Fr.bind (fr_X12_boundOf _ _) (by decide) hm (fun q2 hm => ?_)
      refine Fr.ite ?_ ?_
      · exact ih _ _ hm
      · exact Fr.some hm
theorem fr_X12_fits_b21 {M0 : xM} (fu : Nat)  (x1 : Int32) (x2 : Int32)  : ∀ (n : Nat) (x3 : Int32) (M : xM), xfr wr_X12_fits M0 M → Fr wr_X12_fits M0 Prod.snd (F_X12_fits_b21 fu x1 x2 n x3 M) := by
  intro n
  induction n with
  | zero =>
    intro x3 M hm
    exact Fr.none
  | succ n ih =>
    intro x3 M hm
    rw [F_X12_fits_b21]
    refine Fr.ite ?_ ?_
    · exact fr_X12_fits_b112 fu x1 x2  fu _ _ (by repeat first | exact hm | refine xfr.setf ?_ (by first | decide | exact xin_none (by decide) _))
    · refine Fr.ite Fr.none ?_
      refine Fr.ite ?_ ?_
      · exact fr_X12_fits_b104 fu x1 x2 ih _ _ (by repeat first | exact hm | refine xfr.setf ?_ (by first | decide | exact xin_none (by decide) _))
      · refine Fr.ite Fr.none ?_
        exact fr_X12_fits_b49 fu x1 x2 ih fu _ _ (by repeat first | exact hm | refine xfr.setf ?_ (by first | decide | exact xin_none (by decide) _))
theorem fr_X12_fits_b0 {M0 : xM} (fu : Nat)  (x1 : Int32) (x2 : Int32)   (M : xM) (hm : xfr wr_X12_fits M0 M) : Fr wr_X12_fits M0 Prod.snd (F_X12_fits fu x1 x2  M) := by
  unfold F_X12_fits
  refine Fr.bind (fr_X12_lay fu _ _ _) (by decide) (by repeat first | exact hm | refine xfr.setf ?_ (by first | decide | exact xin_none (by decide) _)) (fun q1 hm => ?_)
  refine Fr.bind (fr_X12_votersBy fu _ _ _) (by decide) (by repeat first | exact hm | refine xfr.setf ?_ (by first | decide | exact xin_none (by decide) _)) (fun q2 hm => ?_)
  exact fr_X12_fits_b21 fu x1 x2  fu _ _ (by repeat first | exact hm | refine xfr.setf ?_ (by first | decide | exact xin_none (by decide) _))
theorem fr_X12_fits (fu : Nat)  (x1 : Int32) (x2 : Int32) (M : xM) : Fr wr_X12_fits M Prod.snd (F_X12_fits fu x1 x2  M) := fr_X12_fits_b0 fu x1 x2  M xfr.rf
theorem fr_X12_fitting_b57 {M0 : xM} (fu : Nat)  (x1 : Int32) (x2 : Int32) {k20 : Int32 → Int32 → xM → Option (Int32 × xM)} (hk20 : ∀ (b0 : Int32) (b1 : Int32) (M : xM), xfr wr_X12_fitting M0 M → Fr wr_X12_fitting M0 Prod.snd (k20 b0 b1 M)) (x3 : Int32) (x4 : Int32) (M : xM) (hm : xfr wr_X12_fitting M0 M) : Fr wr_X12_fitting M0 Prod.snd (F_X12_fitting_b57 fu x1 x2 k20 x3 x4 M) := by
  unfold F_X12_fitting_b57
  exact hk20 _ _ _ hm
theorem fr_X12_fitting_b20 {M0 : xM} (fu : Nat)  (x1 : Int32) (x2 : Int32)  : ∀ (n : Nat) (x3 : Int32) (x4 : Int32) (M : xM), xfr wr_X12_fitting M0 M → Fr wr_X12_fitting M0 Prod.snd (F_X12_fitting_b20 fu x1 x2 n x3 x4 M) := by
  intro n
  induction n with
  | zero =>
    intro x3 x4 M hm
    exact Fr.none
  | succ n ih =>
    intro x3 x4 M hm
    rw [F_X12_fitting_b20]
    refine Fr.ite Fr.none ?_
    refine Fr.ite ?_ ?_
    · refine Fr.ite ?_ ?_
      · exact Fr.some hm
      · exact Fr.some hm
    · refine Fr.bind (fr_X12_fits fu _ _ _) (by decide) hm (fun q1 hm => ?_)
      refine Fr.ite ?_ ?_
      · exact fr_X12_fitting_b57 fu x1 x2 ih _ _ _ hm
      · refine Fr.ite ?_ ?_
        · exact Fr.some hm
        · exact fr_X12_fitting_b57 fu x1 x2 ih _ _ _ hm
theorem fr_X12_fitting_b0 {M0 : xM} (fu : Nat)  (x1 : Int32) (x2 : Int32)   (M : xM) (hm : xfr wr_X12_fitting M0 M) : Fr wr_X12_fitting M0 Prod.snd (F_X12_fitting fu x1 x2  M) := by
  unfold F_X12_fitting
  refine Fr.ite ?_ ?_
  · exact Fr.some (by repeat first | exact hm | refine xfr.setf ?_ (by first | decide | exact xin_none (by decide) _))
  · exact fr_X12_fitting_b20 fu x1 x2  fu _ _ _ (by repeat first | exact hm | refine xfr.setf ?_ (by first | decide | exact xin_none (by decide) _))
theorem fr_X12_fitting (fu : Nat)  (x1 : Int32) (x2 : Int32) (M : xM) : Fr wr_X12_fitting M Prod.snd (F_X12_fitting fu x1 x2  M) := fr_X12_fitting_b0 fu x1 x2  M xfr.rf
theorem fr_X12_fewestOf_b40 {M0 : xM} (fu : Nat)  (x1 : Int32) {k4 : Int32 → Int32 → xM → Option (Int32 × xM)} (hk4 : ∀ (b0 : Int32) (b1 : Int32) (M : xM), xfr wr_X12_fewestOf M0 M → Fr wr_X12_fewestOf M0 Prod.snd (k4 b0 b1 M)) (x2 : Int32) (x3 : Int32) (M : xM) (hm : xfr wr_X12_fewestOf M0 M) : Fr wr_X12_fewestOf M0 Prod.snd (F_X12_fewestOf_b40 fu x1 k4 x2 x3 M) := by
  unfold F_X12_fewestOf_b40
  exact hk4 _ _ _ hm
theorem fr_X12_fewestOf_b29 {M0 : xM} (fu : Nat)  (x1 : Int32) {k4 : Int32 → Int32 → xM → Option (Int32 × xM)} (hk4 : ∀ (b0 : Int32) (b1 : Int32) (M : xM), xfr wr_X12_fewestOf M0 M → Fr wr_X12_fewestOf M0 Prod.snd (k4 b0 b1 M)) (x2 : Int32) (x3 : Int32) (M : xM) (hm : xfr wr_X12_fewestOf M0 M) : Fr wr_X12_fewestOf M0 Prod.snd (F_X12_fewestOf_b29 fu x1 k4 x2 x3 M) := by
  unfold F_X12_fewestOf_b29
  refine Fr.bind (fr_X12_fits fu _ _ _) (by decide) hm (fun q1 hm => ?_)
  refine Fr.ite ?_ ?_
  · exact fr_X12_fewestOf_b40 fu x1 hk4 _ _ _ hm
  · exact fr_X12_fewestOf_b40 fu x1 hk4 _ _ _ hm
theorem fr_X12_fewestOf_b4 {M0 : xM} (fu : Nat)  (x1 : Int32)  : ∀ (n : Nat) (x2 : Int32) (x3 : Int32) (M : xM), xfr wr_X12_fewestOf M0 M → Fr wr_X12_fewestOf M0 Prod.snd (F_X12_fewestOf_b4 fu x1 n x2 x3 M) := by
  intro n
  induction n with
  | zero =>
    intro x2 x3 M hm
    exact Fr.none
  | succ n ih =>
    intro x2 x3 M hm
    rw [F_X12_fewestOf_b4]
    refine Fr.ite Fr.none ?_
    refine Fr.ite ?_ ?_
    · exact Fr.some hm
    · refine Fr.ite ?_ ?_
      · exact fr_X12_fewestOf_b29 fu x1 ih _ _ _ hm
      · refine Fr.ite ?_ ?_
        · exact fr_X12_fewestOf_b40 fu x1 ih _ _ _ hm
        · exact fr_X12_fewestOf_b29 fu x1 ih _ _ _ hm
theorem fr_X12_fewestOf_b0 {M0 : xM} (fu : Nat)  (x1 : Int32)   (M : xM) (hm : xfr wr_X12_fewestOf M0 M) : Fr wr_X12_fewestOf M0 Prod.snd (F_X12_fewestOf fu x1  M) := by
  unfold F_X12_fewestOf
  exact fr_X12_fewestOf_b4 fu x1  fu _ _ _ hm
theorem fr_X12_fewestOf (fu : Nat)  (x1 : Int32) (M : xM) : Fr wr_X12_fewestOf M Prod.snd (F_X12_fewestOf fu x1  M) := fr_X12_fewestOf_b0 fu x1  M xfr.rf
theorem fr_X12_sets_b95 {M0 : xM} (fu : Nat)  (x1 : Int32) (x2 : Int32) {k54 : Int32 → Int32 → Int32 → Int32 → xM → Option (Int32 × xM)} (hk54 : ∀ (b0 : Int32) (b1 : Int32) (b2 : Int32) (b3 : Int32) (M : xM), xfr wr_X12_sets M0 M → Fr wr_X12_sets M0 Prod.snd (k54 b0 b1 b2 b3 M)) (x3 : Int32) (x4 : Int32) (x5 : Int32) (x6 : Int32) (M : xM) (hm : xfr wr_X12_sets M0 M) : Fr wr_X12_sets M0 Prod.snd (F_X12_sets_b95 fu x1 x2 k54 x3 x4 x5 x6 M) := by
  unfold F_X12_sets_b95
  exact hk54 _ _ _ _ _ hm
theorem fr_X12_sets_b54 {M0 : xM} (fu : Nat)  (x1 : Int32) (x2 : Int32)  : ∀ (n : Nat) (x3 : Int32) (x4 : Int32) (x5 : Int32) (x6 : Int32) (M : xM), xfr wr_X12_sets M0 M → Fr wr_X12_sets M0 Prod.snd (F_X12_sets_b54 fu x1 x2 n x3 x4 x5 x6 M) := by
  intro n
  induction n with
  | zero =>
    intro x3 x4 x5 x6 M hm
    exact Fr.none
  | succ n ih =>
    intro x3 x4 x5 x6 M hm
    rw [F_X12_sets_b54]
    refine Fr.ite Fr.none ?_
    refine Fr.ite ?_ ?_
    · refine Fr.ite ?_ ?_
      · exact Fr.some hm
      · refine Fr.ite ?_ ?_
        · exact Fr.some hm
        · exact Fr.some hm
    · refine Fr.bind (fr_X12_fits fu _ _ _) (by decide) hm (fun q1 hm => ?_)
      refine Fr.ite ?_ ?_
      · exact fr_X12_sets_b95 fu x1 x2 ih _ _ _ _ _ hm
      · exact fr_X12_sets_b95 fu x1 x2 ih _ _ _ _ _ hm
theorem fr_X12_sets_b0 {M0 : xM} (fu : Nat)  (x1 : Int32) (x2 : Int32)   (M : xM) (hm : xfr wr_X12_sets M0 M) : Fr wr_X12_sets M0 Prod.snd (F_X12_sets fu x1 x2  M) := by
  unfold F_X12_sets
  refine Fr.ite ?_ ?_
  · exact Fr.some (by repeat first | exact hm | refine xfr.setf ?_ (by first | decide | exact xin_none (by decide) _))
  · refine Fr.ite ?_ ?_
    · exact Fr.some (by repeat first | exact hm | refine xfr.setf ?_ (by first | decide | exact xin_none (by decide) _))
    · refine Fr.ite ?_ ?_
      · refine Fr.bind (fr_X12_fewestOf fu _ _) (by decide) (by repeat first | exact hm | refine xfr.setf ?_ (by first | decide | exact xin_none (by decide) _)) (fun q1 hm => ?_)
        exact Fr.some (by repeat first | exact hm | refine xfr.setf ?_ (by first | decide | exact xin_none (by decide) _))
      · refine Fr.ite Fr.none ?_
        exact fr_X12_sets_b54 fu x1 x2  fu _ _ _ _ _ (by repeat first | exact hm | refine xfr.setf ?_ (by first | decide | exact xin_none (by decide) _))
theorem fr_X12_sets (fu : Nat)  (x1 : Int32) (x2 : Int32) (M : xM) : Fr wr_X12_sets M Prod.snd (F_X12_sets fu x1 x2  M) := fr_X12_sets_b0 fu x1 x2  M xfr.rf
theorem fr_X12_counts_b20 {M0 : xM} (fu : Nat)  (x1 : Int32) (x2 : Int32)   (M : xM) (hm : xfr wr_X12_counts M0 M) : Fr wr_X12_counts M0 Prod.snd (F_X12_counts_b20 fu x1 x2  M) := by
  unfold F_X12_counts_b20
  refine Fr.bind (fr_X12_fits fu _ _ _) (by decide) hm (fun q1 hm => ?_)
  refine Fr.ite ?_ ?_
  · exact Fr.some hm
  · exact Fr.some hm
theorem fr_X12_counts_b0 {M0 : xM} (fu : Nat)  (x1 : Int32) (x2 : Int32)   (M : xM) (hm : xfr wr_X12_counts M0 M) : Fr wr_X12_counts M0 Prod.snd (F_X12_counts fu x1 x2  M) := by
  unfold F_X12_counts
  refine Fr.ite Fr.none ?_
  refine Fr.ite ?_ ?_
  · exact fr_X12_counts_b20 fu x1 x2   _ hm
  · refine Fr.ite Fr.none ?_
    refine Fr.ite ?_ ?_
    · exact fr_X12_counts_b20 fu x1 x2   _ hm
    · exact Fr.some hm
theorem fr_X12_counts (fu : Nat)  (x1 : Int32) (x2 : Int32) (M : xM) : Fr wr_X12_counts M Prod.snd (F_X12_counts fu x1 x2  M) := fr_X12_counts_b0 fu x1 x2  M xfr.rf
theorem fr_X12_spanOf_b107 {M0 : xM} (fu : Nat)  (x1 : Int32) (x2 : Int32) (x3 : Int32) {k9 : Int32 → Int32 → Int32 → xM → Option (Int32 × xM)} (hk9 : ∀ (b0 : Int32) (b1 : Int32) (b2 : Int32) (M : xM), xfr wr_X12_spanOf M0 M → Fr wr_X12_spanOf M0 Prod.snd (k9 b0 b1 b2 M)) (x4 : Int32) (x5 : Int32) (x6 : Int32) (M : xM) (hm : xfr wr_X12_spanOf M0 M) : Fr wr_X12_spanOf M0 Prod.snd (F_X12_spanOf_b107 fu x1 x2 x3 k9 x4 x5 x6 M) := by
  unfold F_X12_spanOf_b107
  exact hk9 _ _ _ _ hm
theorem fr_X12_spanOf_b96 {M0 : xM} (fu : Nat)  (x1 : Int32) (x2 : Int32) (x3 : Int32) {k9 : Int32 → Int32 → Int32 → xM → Option (Int32 × xM)} (hk9 : ∀ (b0 : Int32) (b1 : Int32) (b2 : Int32) (M : xM), xfr wr_X12_spanOf M0 M → Fr wr_X12_spanOf M0 Prod.snd (k9 b0 b1 b2 M)) (x5 : Int32) (x6 : Int32) (x8 : Int32) (s0 : Int32) (M : xM) (hm : xfr wr_X12_spanOf M0 M) : Fr wr_X12_spanOf M0 Prod.snd (F_X12_spanOf_b96 fu x1 x2 x3 k9 x5 x6 x8 s0 M) := by
  unfold F_X12_spanOf_b96
  exact fr_X12_spanOf_b107 fu x1 x2 x3 hk9 _ _ _ _ hm
theorem fr_X12_spanOf_b9 {M0 : xM} (fu : Nat)  (x1 : Int32) (x2 : Int32) (x3 : Int32)  : ∀ (n : Nat) (x4 : Int32) (x5 : Int32) (x6 : Int32) (M : xM), xfr wr_X12_spanOf M0 M → Fr wr_X12_spanOf M0 Prod.snd (F_X12_spanOf_b9 fu x1 x2 x3 n x4 x5 x6 M) := by
  intro n
  induction n with
  | zero =>
    intro x4 x5 x6 M hm
    exact Fr.none
  | succ n ih =>
    intro x4 x5 x6 M hm
    rw [F_X12_spanOf_b9]
    refine Fr.ite Fr.none ?_
    refine Fr.ite ?_ ?_
    · refine Fr.ite ?_ ?_
      · exact Fr.some hm
      · exact Fr.some hm
    · refine Fr.bind (fr_X12_counts fu _ _ _) (by decide) hm (fun q1 hm => ?_)
      refine Fr.ite ?_ ?_
      · exact fr_X12_spanOf_b107 fu x1 x2 x3 ih _ _ _ _ hm
      · refine Fr.ite Fr.none ?_
        refine Fr.bind (fr_X12_boundOf _ _) (by decide) hm (fun q2 hm => ?_)
        refine Fr.bind (fr_X12_sumOfLeast fu _ _) (by decide) hm (fun q3 hm => ?_)
        refine Fr.ite Fr.none ?_
        refine Fr.bind (fr_X12_greatest fu _ _ _) (by decide) hm (fun q4 hm => ?_)
        refine Fr.ite ?_ ?_
        · refine Fr.ite Fr.none ?_
          exact fr_X12_spanOf_b96 fu x1 x2 x3 ih _ _ _ _ _ hm
        · refine Fr.ite Fr.none ?_
          exact fr_X12_spanOf_b96 fu x1 x2 x3 ih _ _ _ _ _ hm
theorem fr_X12_spanOf_b0 {M0 : xM} (fu : Nat)  (x1 : Int32) (x2 : Int32) (x3 : Int32)   (M : xM) (hm : xfr wr_X12_spanOf M0 M) : Fr wr_X12_spanOf M0 Prod.snd (F_X12_spanOf fu x1 x2 x3  M) := by
  unfold F_X12_spanOf
  exact fr_X12_spanOf_b9 fu x1 x2 x3  fu _ _ _ _ hm
theorem fr_X12_spanOf (fu : Nat)  (x1 : Int32) (x2 : Int32) (x3 : Int32) (M : xM) : Fr wr_X12_spanOf M Prod.snd (F_X12_spanOf fu x1 x2 x3  M) := fr_X12_spanOf_b0 fu x1 x2 x3  M xfr.rf
theorem fr_X12_isOfOffice_b0 {M0 : xM}  (x1 : Int32)   (M : xM) (hm : xfr wr_X12_isOfOffice M0 M) : Fr wr_X12_isOfOffice M0 Prod.snd (F_X12_isOfOffice x1  M) := by
  unfold F_X12_isOfOffice
  refine Fr.ite ?_ ?_
  · exact Fr.some hm
  · refine Fr.ite Fr.none ?_
    refine Fr.ite ?_ ?_
    · exact Fr.some hm
    · exact Fr.some hm
theorem fr_X12_isOfOffice  (x1 : Int32) (M : xM) : Fr wr_X12_isOfOffice M Prod.snd (F_X12_isOfOffice  x1  M) := fr_X12_isOfOffice_b0 x1  M xfr.rf
theorem fr_X12_span_b0 {M0 : xM} (fu : Nat)  (x1 : Int32) (x2 : Int32) (x3 : Int32)   (M : xM) (hm : xfr wr_X12_span M0 M) : Fr wr_X12_span M0 Prod.snd (F_X12_span fu x1 x2 x3  M) := by
  unfold F_X12_span
  refine Fr.ite ?_ ?_
  · exact Fr.some (by repeat first | exact hm | refine xfr.setf ?_ (by first | decide | exact xin_none (by decide) _))
  · refine Fr.bind (fr_X12_isOfOffice _ _) (by decide) (by repeat first | exact hm | refine xfr.setf ?_ (by first | decide | exact xin_none (by decide) _)) (fun q1 hm => ?_)
    refine Fr.ite ?_ ?_
    · exact Fr.some (by repeat first | exact hm | refine xfr.setf ?_ (by first | decide | exact xin_none (by decide) _))
    · refine Fr.ite ?_ ?_
      · exact Fr.some (by repeat first | exact hm | refine xfr.setf ?_ (by first | decide | exact xin_none (by decide) _))
      · refine Fr.bind (fr_X12_spanOf fu _ _ _ _) (by decide) (by repeat first | exact hm | refine xfr.setf ?_ (by first | decide | exact xin_none (by decide) _)) (fun q2 hm => ?_)
        exact Fr.some (by repeat first | exact hm | refine xfr.setf ?_ (by first | decide | exact xin_none (by decide) _))
theorem fr_X12_span (fu : Nat)  (x1 : Int32) (x2 : Int32) (x3 : Int32) (M : xM) : Fr wr_X12_span M Prod.snd (F_X12_span fu x1 x2 x3  M) := fr_X12_span_b0 fu x1 x2 x3  M xfr.rf
theorem fr_X12_open_b49 {M0 : xM} (fu : Nat)  (x1 : Int32) (x2 : Int32)   (M : xM) (hm : xfr wr_X12_open M0 M) : Fr wr_X12_open M0 Prod.snd (F_X12_open_b49 fu x1 x2  M) := by
  unfold F_X12_open_b49
  refine Fr.ite Fr.none ?_
  exact Fr.some (by repeat first | exact hm | refine xfr.setf ?_ (by first | decide | exact xin_none (by decide) _))
theorem fr_X12_open_b0 {M0 : xM} (fu : Nat)  (x1 : Int32) (x2 : Int32)   (M : xM) (hm : xfr wr_X12_open M0 M) : Fr wr_X12_open M0 Prod.snd (F_X12_open fu x1 x2  M) := by
  unfold F_X12_open
  refine Fr.ite ?_ ?_
  · exact Fr.some (by repeat first | exact hm | refine xfr.setf ?_ (by first | decide | exact xin_none (by decide) _))
  · refine Fr.ite ?_ ?_
    · exact fr_X12_open_b49 fu x1 x2   _ (by repeat first | exact hm | refine xfr.setf ?_ (by first | decide | exact xin_none (by decide) _))
    · refine Fr.ite Fr.none ?_
      refine Fr.ite ?_ ?_
      · exact Fr.some (by repeat first | exact hm | refine xfr.setf ?_ (by first | decide | exact xin_none (by decide) _))
      · refine Fr.bind (fr_X12_fits fu _ _ _) (by decide) (by repeat first | exact hm | refine xfr.setf ?_ (by first | decide | exact xin_none (by decide) _)) (fun q1 hm => ?_)
        refine Fr.ite ?_ ?_
        · exact Fr.some (by repeat first | exact hm | refine xfr.setf ?_ (by first | decide | exact xin_none (by decide) _))
        · exact fr_X12_open_b49 fu x1 x2   _ (by repeat first | exact hm | refine xfr.setf ?_ (by first | decide | exact xin_none (by decide) _))
theorem fr_X12_open (fu : Nat)  (x1 : Int32) (x2 : Int32) (M : xM) : Fr wr_X12_open M Prod.snd (F_X12_open fu x1 x2  M) := fr_X12_open_b0 fu x1 x2  M xfr.rf
theorem fr_X12_total_b29 {M0 : xM} (fu : Nat)  (x1 : Int32) (x2 : Int32)  : ∀ (n : Nat) (x3 : Int32) (x4 : Int32) (M : xM), xfr wr_X12_total M0 M → Fr wr_X12_total M0 Prod.snd (F_X12_total_b29 fu x1 x2 n x3 x4 M) := by
  intro n
  induction n with
  | zero =>
    intro x3 x4 M hm
    exact Fr.none
  | succ n ih =>
    intro x3 x4 M hm
    rw [F_X12_total_b29]
    refine Fr.ite ?_ ?_
    · exact Fr.some hm
    · refine Fr.bind (fr_X12_spanOf fu _ _ _ _) (by decide) hm (fun q1 hm => ?_)
      refine Fr.ite ?_ ?_
      · exact Fr.some hm
      · exact ih _ _ _ hm
theorem fr_X12_total_b0 {M0 : xM} (fu : Nat)  (x1 : Int32) (x2 : Int32)   (M : xM) (hm : xfr wr_X12_total M0 M) : Fr wr_X12_total M0 Prod.snd (F_X12_total fu x1 x2  M) := by
  unfold F_X12_total
  refine Fr.bind (fr_X12_isOfOffice _ _) (by decide) (by repeat first | exact hm | refine xfr.setf ?_ (by first | decide | exact xin_none (by decide) _)) (fun q1 hm => ?_)
  refine Fr.ite ?_ ?_
  · exact Fr.some (by repeat first | exact hm | refine xfr.setf ?_ (by first | decide | exact xin_none (by decide) _))
  · refine Fr.ite ?_ ?_
    · exact Fr.some (by repeat first | exact hm | refine xfr.setf ?_ (by first | decide | exact xin_none (by decide) _))
    · exact fr_X12_total_b29 fu x1 x2  fu _ _ _ (by repeat first | exact hm | refine xfr.setf ?_ (by first | decide | exact xin_none (by decide) _))
theorem fr_X12_total (fu : Nat)  (x1 : Int32) (x2 : Int32) (M : xM) : Fr wr_X12_total M Prod.snd (F_X12_total fu x1 x2  M) := fr_X12_total_b0 fu x1 x2  M xfr.rf
theorem fr_X12_aheadNow_b0 {M0 : xM} (fu : Nat)  (x1 : Int32) (x2 : Int32)   (M : xM) (hm : xfr wr_X12_aheadNow M0 M) : Fr wr_X12_aheadNow M0 Prod.snd (F_X12_aheadNow fu x1 x2  M) := by
  unfold F_X12_aheadNow
  refine Fr.ite Fr.none ?_
  refine Fr.ite Fr.none ?_
  refine Fr.bind (fr_X12_boundOf _ _) (by decide) hm (fun q1 hm => ?_)
  refine Fr.bind (fr_X12_sumOfLeast fu _ _) (by decide) hm (fun q2 hm => ?_)
  refine Fr.ite Fr.none ?_
  refine Fr.bind (fr_X12_greatest fu _ _ _) (by decide) hm (fun q3 hm => ?_)
  exact Fr.some hm
theorem fr_X12_aheadNow (fu : Nat)  (x1 : Int32) (x2 : Int32) (M : xM) : Fr wr_X12_aheadNow M Prod.snd (F_X12_aheadNow fu x1 x2  M) := fr_X12_aheadNow_b0 fu x1 x2  M xfr.rf
theorem fr_X12_aheadIn_b99 {M0 : xM} (fu : Nat)  (x1 : Int32) (x2 : Int32) (x3 : Int32) (x4 : Int32) {k8 : Int32 → Int32 → xM → Option (Int32 × xM)} (hk8 : ∀ (b0 : Int32) (b1 : Int32) (M : xM), xfr wr_X12_aheadIn M0 M → Fr wr_X12_aheadIn M0 Prod.snd (k8 b0 b1 M)) (x5 : Int32) (x6 : Int32) (M : xM) (hm : xfr wr_X12_aheadIn M0 M) : Fr wr_X12_aheadIn M0 Prod.snd (F_X12_aheadIn_b99 fu x1 x2 x3 x4 k8 x5 x6 M) := by
  unfold F_X12_aheadIn_b99
  exact hk8 _ _ _ hm
theorem fr_X12_aheadIn_b97 {M0 : xM} (fu : Nat)  (x1 : Int32) (x2 : Int32) (x3 : Int32) (x4 : Int32) {k8 : Int32 → Int32 → xM → Option (Int32 × xM)} (hk8 : ∀ (b0 : Int32) (b1 : Int32) (M : xM), xfr wr_X12_aheadIn M0 M → Fr wr_X12_aheadIn M0 Prod.snd (k8 b0 b1 M)) (x6 : Int32) (s0 : Int32) (M : xM) (hm : xfr wr_X12_aheadIn M0 M) : Fr wr_X12_aheadIn M0 Prod.snd (F_X12_aheadIn_b97 fu x1 x2 x3 x4 k8 x6 s0 M) := by
  unfold F_X12_aheadIn_b97
  exact fr_X12_aheadIn_b99 fu x1 x2 x3 x4 hk8 _ _ _ hm
theorem fr_X12_aheadIn_b59 {M0 : xM} (fu : Nat)  (x1 : Int32) (x2 : Int32) (x3 : Int32) (x4 : Int32) {k8 : Int32 → Int32 → xM → Option (Int32 × xM)} (hk8 : ∀ (b0 : Int32) (b1 : Int32) (M : xM), xfr wr_X12_aheadIn M0 M → Fr wr_X12_aheadIn M0 Prod.snd (k8 b0 b1 M)) (x5 : Int32) (x6 : Int32) (s0 : Int32) (M : xM) (hm : xfr wr_X12_aheadIn M0 M) : Fr wr_X12_aheadIn M0 Prod.snd (F_X12_aheadIn_b59 fu x1 x2 x3 x4 k8 x5 x6 s0 M) := by
  unfold F_X12_aheadIn_b59
  refine Fr.ite ?_ ?_
  · exact fr_X12_aheadIn_b99 fu x1 x2 x3 x4 hk8 _ _ _ hm
  · refine Fr.bind (fr_X12_aheadNow fu _ _ _) (by decide) hm (fun q1 hm => ?_)
    refine Fr.ite ?_ ?_
    · exact fr_X12_aheadIn_b97 fu x1 x2 x3 x4 hk8 _ _ _ hm
    · exact fr_X12_aheadIn_b97 fu x1 x2 x3 x4 hk8 _ _ _ hm
theorem fr_X12_aheadIn_b58 {M0 : xM} (fu : Nat)  (x1 : Int32) (x2 : Int32) (x3 : Int32) (x4 : Int32) {k8 : Int32 → Int32 → xM → Option (Int32 × xM)} (hk8 : ∀ (b0 : Int32) (b1 : Int32) (M : xM), xfr wr_X12_aheadIn M0 M → Fr wr_X12_aheadIn M0 Prod.snd (k8 b0 b1 M)) (x5 : Int32) (x6 : Int32) (M : xM) (hm : xfr wr_X12_aheadIn M0 M) : Fr wr_X12_aheadIn M0 Prod.snd (F_X12_aheadIn_b58 fu x1 x2 x3 x4 k8 x5 x6 M) := by
  unfold F_X12_aheadIn_b58
  exact fr_X12_aheadIn_b59 fu x1 x2 x3 x4 hk8 _ _ _ _ hm
theorem fr_X12_aheadIn_b8 {M0 : xM} (fu : Nat)  (x1 : Int32) (x2 : Int32) (x3 : Int32) (x4 : Int32)  : ∀ (n : Nat) (x5 : Int32) (x6 : Int32) (M : xM), xfr wr_X12_aheadIn M0 M → Fr wr_X12_aheadIn M0 Prod.snd (F_X12_aheadIn_b8 fu x1 x2 x3 x4 n x5 x6 M) := by
  intro n
  induction n with
  | zero =>
    intro x5 x6 M hm
    exact Fr.none
  | succ n ih =>
    intro x5 x6 M hm
    rw [F_X12_aheadIn_b8]
    refine Fr.ite Fr.none ?_
    refine Fr.ite ?_ ?_
    · exact Fr.some hm
    · refine Fr.ite ?_ ?_
      · refine Fr.bind (fr_X12_counts fu _ _ _) (by decide) hm (fun q2 hm => ?_)
        exact fr_X12_aheadIn_b59 fu x1 x2 x3 x4 ih _ _ _ _ hm
      · refine Fr.ite ?_ ?_
        · refine Fr.bind (fr_X12_fits fu _ _ _) (by decide) hm (fun q1 hm => ?_)
          refine Fr.ite ?_ ?_
          · exact fr_X12_aheadIn_b58 fu x1 x2 x3 x4 ih _ _ _ hm
          · exact fr_X12_aheadIn_b59 fu x1 x2 x3 x4 ih _ _ _ _ hm
        · exact fr_X12_aheadIn_b58 fu x1 x2 x3 x4 ih _ _ _ hm
theorem fr_X12_aheadIn_b0 {M0 : xM} (fu : Nat)  (x1 : Int32) (x2 : Int32) (x3 : Int32) (x4 : Int32)   (M : xM) (hm : xfr wr_X12_aheadIn M0 M) : Fr wr_X12_aheadIn M0 Prod.snd (F_X12_aheadIn fu x1 x2 x3 x4  M) := by
  unfold F_X12_aheadIn
  exact fr_X12_aheadIn_b8 fu x1 x2 x3 x4  fu _ _ _ hm
theorem fr_X12_aheadIn (fu : Nat)  (x1 : Int32) (x2 : Int32) (x3 : Int32) (x4 : Int32) (M : xM) : Fr wr_X12_aheadIn M Prod.snd (F_X12_aheadIn fu x1 x2 x3 x4  M) := fr_X12_aheadIn_b0 fu x1 x2 x3 x4  M xfr.rf
theorem fr_X12_aheadOf_b5 {M0 : xM} (fu : Nat)  (x1 : Int32) (x2 : Int32)  : ∀ (n : Nat) (x3 : Int32) (x4 : Int32) (M : xM), xfr wr_X12_aheadOf M0 M → Fr wr_X12_aheadOf M0 Prod.snd (F_X12_aheadOf_b5 fu x1 x2 n x3 x4 M) := by
  intro n
  induction n with
  | zero =>
    intro x3 x4 M hm
    exact Fr.none
  | succ n ih =>
    intro x3 x4 M hm
    rw [F_X12_aheadOf_b5]
    refine Fr.ite ?_ ?_
    · exact Fr.some hm
    · refine Fr.bind (fr_X12_aheadIn fu _ _ _ _ _) (by decide) hm (fun q1 hm => ?_)
      refine Fr.ite ?_ ?_
      · exact Fr.some hm
      · exact ih _ _ _ hm
theorem fr_X12_aheadOf_b0 {M0 : xM} (fu : Nat)  (x1 : Int32) (x2 : Int32)   (M : xM) (hm : xfr wr_X12_aheadOf M0 M) : Fr wr_X12_aheadOf M0 Prod.snd (F_X12_aheadOf fu x1 x2  M) := by
  unfold F_X12_aheadOf
  exact fr_X12_aheadOf_b5 fu x1 x2  fu _ _ _ hm
theorem fr_X12_aheadOf (fu : Nat)  (x1 : Int32) (x2 : Int32) (M : xM) : Fr wr_X12_aheadOf M Prod.snd (F_X12_aheadOf fu x1 x2  M) := fr_X12_aheadOf_b0 fu x1 x2  M xfr.rf
theorem fr_X12_ahead_b0 {M0 : xM} (fu : Nat)  (x1 : Int32) (x2 : Int32)   (M : xM) (hm : xfr wr_X12_ahead M0 M) : Fr wr_X12_ahead M0 Prod.snd (F_X12_ahead fu x1 x2  M) := by
  unfold F_X12_ahead
  refine Fr.bind (fr_X12_isOfOffice _ _) (by decide) (by repeat first | exact hm | refine xfr.setf ?_ (by first | decide | exact xin_none (by decide) _)) (fun q1 hm => ?_)
  refine Fr.ite ?_ ?_
  · exact Fr.some (by repeat first | exact hm | refine xfr.setf ?_ (by first | decide | exact xin_none (by decide) _))
  · refine Fr.bind (fr_X12_isOfOffice _ _) (by decide) (by repeat first | exact hm | refine xfr.setf ?_ (by first | decide | exact xin_none (by decide) _)) (fun q2 hm => ?_)
    refine Fr.ite ?_ ?_
    · exact Fr.some (by repeat first | exact hm | refine xfr.setf ?_ (by first | decide | exact xin_none (by decide) _))
    · refine Fr.ite ?_ ?_
      · exact Fr.some (by repeat first | exact hm | refine xfr.setf ?_ (by first | decide | exact xin_none (by decide) _))
      · refine Fr.ite Fr.none ?_
        refine Fr.ite Fr.none ?_
        refine Fr.ite ?_ ?_
        · refine Fr.bind (fr_X12_aheadOf fu _ _ _) (by decide) (by repeat first | exact hm | refine xfr.setf ?_ (by first | decide | exact xin_none (by decide) _)) (fun q3 hm => ?_)
          exact Fr.some (by repeat first | exact hm | refine xfr.setf ?_ (by first | decide | exact xin_none (by decide) _))
        · exact Fr.some (by repeat first | exact hm | refine xfr.setf ?_ (by first | decide | exact xin_none (by decide) _))
theorem fr_X12_ahead (fu : Nat)  (x1 : Int32) (x2 : Int32) (M : xM) : Fr wr_X12_ahead M Prod.snd (F_X12_ahead fu x1 x2  M) := fr_X12_ahead_b0 fu x1 x2  M xfr.rf
theorem fr_X12_isFound_b2 {M0 : xM} (fu : Nat)  (x1 : Int32)  : ∀ (n : Nat) (x2 : Int32) (M : xM), xfr wr_X12_isFound M0 M → Fr wr_X12_isFound M0 Prod.snd (F_X12_isFound_b2 fu x1 n x2 M) := by
  intro n
  induction n with
  | zero =>
    intro x2 M hm
    exact Fr.none
  | succ n ih =>
    intro x2 M hm
    rw [F_X12_isFound_b2]
    refine Fr.ite Fr.none ?_
    refine Fr.ite ?_ ?_
    · exact Fr.some hm
    · refine Fr.bind (fr_X12_counts fu _ _ _) (by decide) hm (fun q1 hm => ?_)
      refine Fr.ite ?_ ?_
      · exact ih _ _ hm
      · exact Fr.some hm
theorem fr_X12_isFound_b0 {M0 : xM} (fu : Nat)  (x1 : Int32)   (M : xM) (hm : xfr wr_X12_isFound M0 M) : Fr wr_X12_isFound M0 Prod.snd (F_X12_isFound fu x1  M) := by
  unfold F_X12_isFound
  exact fr_X12_isFound_b2 fu x1  fu _ _ hm
theorem fr_X12_isFound (fu : Nat)  (x1 : Int32) (M : xM) : Fr wr_X12_isFound M Prod.snd (F_X12_isFound fu x1  M) := fr_X12_isFound_b0 fu x1  M xfr.rf
theorem fr_X12_areFound_b2 {M0 : xM} (fu : Nat)    : ∀ (n : Nat) (x1 : Int32) (M : xM), xfr wr_X12_areFound M0 M → Fr wr_X12_areFound M0 Prod.snd (F_X12_areFound_b2 fu n x1 M) := by
  intro n
  induction n with
  | zero =>
    intro x1 M hm
    exact Fr.none
  | succ n ih =>
    intro x1 M hm
    rw [F_X12_areFound_b2]
    refine Fr.ite ?_ ?_
    · exact Fr.some hm
    · refine Fr.bind (fr_X12_isFound fu _ _) (by decide) hm (fun q1 hm => ?_)
      refine Fr.ite ?_ ?_
      · exact Fr.some hm
      · exact ih _ _ hm
theorem fr_X12_areFound_b0 {M0 : xM} (fu : Nat)     (M : xM) (hm : xfr wr_X12_areFound M0 M) : Fr wr_X12_areFound M0 Prod.snd (F_X12_areFound fu  M) := by
  unfold F_X12_areFound
  exact fr_X12_areFound_b2 fu  fu _ _ hm
theorem fr_X12_areFound (fu : Nat)   (M : xM) : Fr wr_X12_areFound M Prod.snd (F_X12_areFound fu   M) := fr_X12_areFound_b0 fu  M xfr.rf
theorem fr_X12_isWinner_b42 {M0 : xM} (fu : Nat)  (x1 : Int32) {k2 : Int32 → xM → Option (Int32 × xM)} (hk2 : ∀ (b0 : Int32) (M : xM), xfr wr_X12_isWinner M0 M → Fr wr_X12_isWinner M0 Prod.snd (k2 b0 M)) (x2 : Int32) (M : xM) (hm : xfr wr_X12_isWinner M0 M) : Fr wr_X12_isWinner M0 Prod.snd (F_X12_isWinner_b42 fu x1 k2 x2 M) := by
  unfold F_X12_isWinner_b42
  exact hk2 _ _ hm
theorem fr_X12_isWinner_b2 {M0 : xM} (fu : Nat)  (x1 : Int32)  : ∀ (n : Nat) (x2 : Int32) (M : xM), xfr wr_X12_isWinner M0 M → Fr wr_X12_isWinner M0 Prod.snd (F_X12_isWinner_b2 fu x1 n x2 M) := by
  intro n
  induction n with
  | zero =>
    intro x2 M hm
    exact Fr.none
  | succ n ih =>
    intro x2 M hm
    rw [F_X12_isWinner_b2]
    refine Fr.ite ?_ ?_
    · exact Fr.some hm
    · refine Fr.ite ?_ ?_
      · exact fr_X12_isWinner_b42 fu x1 ih _ _ hm
      · refine Fr.ite Fr.none ?_
        refine Fr.ite Fr.none ?_
        refine Fr.ite ?_ ?_
        · refine Fr.bind (fr_X12_aheadOf fu _ _ _) (by decide) hm (fun q1 hm => ?_)
          refine Fr.ite ?_ ?_
          · exact fr_X12_isWinner_b42 fu x1 ih _ _ hm
          · exact Fr.some hm
        · exact fr_X12_isWinner_b42 fu x1 ih _ _ hm
theorem fr_X12_isWinner_b0 {M0 : xM} (fu : Nat)  (x1 : Int32)   (M : xM) (hm : xfr wr_X12_isWinner M0 M) : Fr wr_X12_isWinner M0 Prod.snd (F_X12_isWinner fu x1  M) := by
  unfold F_X12_isWinner
  exact fr_X12_isWinner_b2 fu x1  fu _ _ hm
theorem fr_X12_isWinner (fu : Nat)  (x1 : Int32) (M : xM) : Fr wr_X12_isWinner M Prod.snd (F_X12_isWinner fu x1  M) := fr_X12_isWinner_b0 fu x1  M xfr.rf
theorem fr_X12_wins_b58 {M0 : xM} (fu : Nat)  (x1 : Int32) {k30 : Int32 → xM → Option (Int32 × xM)} (hk30 : ∀ (b0 : Int32) (M : xM), xfr wr_X12_wins M0 M → Fr wr_X12_wins M0 Prod.snd (k30 b0 M)) (x2 : Int32) (M : xM) (hm : xfr wr_X12_wins M0 M) : Fr wr_X12_wins M0 Prod.snd (F_X12_wins_b58 fu x1 k30 x2 M) := by
  unfold F_X12_wins_b58
  exact hk30 _ _ hm
theorem fr_X12_wins_b30 {M0 : xM} (fu : Nat)  (x1 : Int32)  : ∀ (n : Nat) (x2 : Int32) (M : xM), xfr wr_X12_wins M0 M → Fr wr_X12_wins M0 Prod.snd (F_X12_wins_b30 fu x1 n x2 M) := by
  intro n
  induction n with
  | zero =>
    intro x2 M hm
    exact Fr.none
  | succ n ih =>
    intro x2 M hm
    rw [F_X12_wins_b30]
    refine Fr.ite ?_ ?_
    · exact Fr.some hm
    · refine Fr.ite Fr.none ?_
      refine Fr.ite ?_ ?_
      · refine Fr.bind (fr_X12_isWinner fu _ _) (by decide) hm (fun q1 hm => ?_)
        refine Fr.ite ?_ ?_
        · exact fr_X12_wins_b58 fu x1 ih _ _ hm
        · exact Fr.some hm
      · exact fr_X12_wins_b58 fu x1 ih _ _ hm
theorem fr_X12_wins_b0 {M0 : xM} (fu : Nat)  (x1 : Int32)   (M : xM) (hm : xfr wr_X12_wins M0 M) : Fr wr_X12_wins M0 Prod.snd (F_X12_wins fu x1  M) := by
  unfold F_X12_wins
  refine Fr.ite ?_ ?_
  · exact Fr.some (by repeat first | exact hm | refine xfr.setf ?_ (by first | decide | exact xin_none (by decide) _))
  · refine Fr.bind (fr_X12_areFound fu  _) (by decide) (by repeat first | exact hm | refine xfr.setf ?_ (by first | decide | exact xin_none (by decide) _)) (fun q1 hm => ?_)
    refine Fr.ite ?_ ?_
    · exact Fr.some (by repeat first | exact hm | refine xfr.setf ?_ (by first | decide | exact xin_none (by decide) _))
    · exact fr_X12_wins_b30 fu x1  fu _ _ (by repeat first | exact hm | refine xfr.setf ?_ (by first | decide | exact xin_none (by decide) _))
theorem fr_X12_wins (fu : Nat)  (x1 : Int32) (M : xM) : Fr wr_X12_wins M Prod.snd (F_X12_wins fu x1  M) := fr_X12_wins_b0 fu x1  M xfr.rf
theorem fr_X12_cost_b0 {M0 : xM}  (x1 : Int32) (x2 : Int32)   (M : xM) (hm : xfr wr_X12_cost M0 M) : Fr wr_X12_cost M0 Prod.snd (F_X12_cost x1 x2  M) := by
  unfold F_X12_cost
  refine Fr.ite ?_ ?_
  · exact Fr.some (by repeat first | exact hm | refine xfr.setf ?_ (by first | decide | exact xin_none (by decide) _))
  · refine Fr.ite ?_ ?_
    · exact Fr.some (by repeat first | exact hm | refine xfr.setf ?_ (by first | decide | exact xin_none (by decide) _))
    · refine Fr.ite Fr.none ?_
      exact Fr.some (by repeat first | exact hm | refine xfr.setf ?_ (by first | decide | exact xin_none (by decide) _))
theorem fr_X12_cost  (x1 : Int32) (x2 : Int32) (M : xM) : Fr wr_X12_cost M Prod.snd (F_X12_cost  x1 x2  M) := fr_X12_cost_b0 x1 x2  M xfr.rf
theorem fr_X12_layGains_b95 {M0 : xM} (fu : Nat)  (x1 : Int32) {k2 : Int32 → xM → Option (xM)} (hk2 : ∀ (b0 : Int32) (M : xM), xfr wr_X12_layGains M0 M → Fr wr_X12_layGains M0 id (k2 b0 M)) {k19 : Int32 → Int32 → Int32 → xM → Option (xM)} (hk19 : ∀ (b0 : Int32) (b1 : Int32) (b2 : Int32) (M : xM), xfr wr_X12_layGains M0 M → Fr wr_X12_layGains M0 id (k19 b0 b1 b2 M)) (x2 : Int32) (x3 : Int32) (x4 : Int32) (M : xM) (hm : xfr wr_X12_layGains M0 M) : Fr wr_X12_layGains M0 id (F_X12_layGains_b95 fu x1 k2 k19 x2 x3 x4 M) := by
  unfold F_X12_layGains_b95
  exact hk19 _ _ _ _ hm
theorem fr_X12_layGains_b19 {M0 : xM} (fu : Nat)  (x1 : Int32) {k2 : Int32 → xM → Option (xM)} (hk2 : ∀ (b0 : Int32) (M : xM), xfr wr_X12_layGains M0 M → Fr wr_X12_layGains M0 id (k2 b0 M)) : ∀ (n : Nat) (x2 : Int32) (x3 : Int32) (x4 : Int32) (M : xM), xfr wr_X12_layGains M0 M → Fr wr_X12_layGains M0 id (F_X12_layGains_b19 fu x1 k2 n x2 x3 x4 M) := by
  intro n
  induction n with
  | zero =>
    intro x2 x3 x4 M hm
    exact Fr.none
  | succ n ih =>
    intro x2 x3 x4 M hm
    rw [F_X12_layGains_b19]
    refine Fr.ite ?_ ?_
    · exact hk2 _ _ (by repeat first | exact hm | refine xfr.setf ?_ (by first | decide | exact xin_none (by decide) _))
    · refine Fr.ite ?_ ?_
      · exact fr_X12_layGains_b95 fu x1 hk2 ih _ _ _ _ (by repeat first | exact hm | refine xfr.setf ?_ (by first | decide | exact xin_none (by decide) _))
      · refine Fr.ite Fr.none ?_
        refine Fr.ite Fr.none ?_
        refine Fr.ite ?_ ?_
        · refine Fr.bind (fr_X12_aheadIn fu _ _ _ _ _) (by decide) (by repeat first | exact hm | refine xfr.setf ?_ (by first | decide | exact xin_none (by decide) _)) (fun q1 hm => ?_)
          refine Fr.ite Fr.none ?_
          refine Fr.bind (fr_X12_aheadIn fu _ _ _ _ _) (by decide) (by repeat first | exact hm | refine xfr.setf ?_ (by first | decide | exact xin_none (by decide) _)) (fun q2 hm => ?_)
          refine Fr.ite Fr.none ?_
          exact fr_X12_layGains_b95 fu x1 hk2 ih _ _ _ _ (by repeat first | exact hm | refine xfr.setf ?_ (by first | decide | exact xin_none (by decide) _))
        · exact fr_X12_layGains_b95 fu x1 hk2 ih _ _ _ _ (by repeat first | exact hm | refine xfr.setf ?_ (by first | decide | exact xin_none (by decide) _))
theorem fr_X12_layGains_b2 {M0 : xM} (fu : Nat)  (x1 : Int32)  : ∀ (n : Nat) (x2 : Int32) (M : xM), xfr wr_X12_layGains M0 M → Fr wr_X12_layGains M0 id (F_X12_layGains_b2 fu x1 n x2 M) := by
  intro n
  induction n with
  | zero =>
    intro x2 M hm
    exact Fr.none
  | succ n ih =>
    intro x2 M hm
    rw [F_X12_layGains_b2]
    refine Fr.ite ?_ ?_
    · exact Fr.somev hm
    · refine Fr.bind (fr_X12_fewestOf fu _ _) (by decide) hm (fun q1 hm => ?_)
      exact fr_X12_layGains_b19 fu x1 ih fu _ _ _ _ hm
theorem fr_X12_layGains_b0 {M0 : xM} (fu : Nat)  (x1 : Int32)   (M : xM) (hm : xfr wr_X12_layGains M0 M) : Fr wr_X12_layGains M0 id (F_X12_layGains fu x1  M) := by
  unfold F_X12_layGains
  exact fr_X12_layGains_b2 fu x1  fu _ _ hm
theorem fr_X12_layGains (fu : Nat)  (x1 : Int32) (M : xM) : Fr wr_X12_layGains M id (F_X12_layGains fu x1  M) := fr_X12_layGains_b0 fu x1  M xfr.rf
theorem fr_X12_winsWith_b103 {M0 : xM} (fu : Nat)  (x1 : Int32) (x2 : Int32) {k2 : Int32 → xM → Option (Int32 × xM)} (hk2 : ∀ (b0 : Int32) (M : xM), xfr wr_X12_winsWith M0 M → Fr wr_X12_winsWith M0 Prod.snd (k2 b0 M)) (x3 : Int32) (M : xM) (hm : xfr wr_X12_winsWith M0 M) : Fr wr_X12_winsWith M0 Prod.snd (F_X12_winsWith_b103 fu x1 x2 k2 x3 M) := by
  unfold F_X12_winsWith_b103
  exact hk2 _ _ hm
theorem fr_X12_winsWith_b86 {M0 : xM} (fu : Nat)  (x1 : Int32) (x2 : Int32) {k2 : Int32 → xM → Option (Int32 × xM)} (hk2 : ∀ (b0 : Int32) (M : xM), xfr wr_X12_winsWith M0 M → Fr wr_X12_winsWith M0 Prod.snd (k2 b0 M)) {k39 : Int32 → Int32 → Int32 → xM → Option (Int32 × xM)} (hk39 : ∀ (b0 : Int32) (b1 : Int32) (b2 : Int32) (M : xM), xfr wr_X12_winsWith M0 M → Fr wr_X12_winsWith M0 Prod.snd (k39 b0 b1 b2 M)) (x3 : Int32) (x5 : Int32) (s0 : Int32) (s1 : Int32) (M : xM) (hm : xfr wr_X12_winsWith M0 M) : Fr wr_X12_winsWith M0 Prod.snd (F_X12_winsWith_b86 fu x1 x2 k2 k39 x3 x5 s0 s1 M) := by
  unfold F_X12_winsWith_b86
  exact hk39 _ _ _ _ hm
theorem fr_X12_winsWith_b39 {M0 : xM} (fu : Nat)  (x1 : Int32) (x2 : Int32) {k2 : Int32 → xM → Option (Int32 × xM)} (hk2 : ∀ (b0 : Int32) (M : xM), xfr wr_X12_winsWith M0 M → Fr wr_X12_winsWith M0 Prod.snd (k2 b0 M)) : ∀ (n : Nat) (x3 : Int32) (x4 : Int32) (x5 : Int32) (M : xM), xfr wr_X12_winsWith M0 M → Fr wr_X12_winsWith M0 Prod.snd (F_X12_winsWith_b39 fu x1 x2 k2 n x3 x4 x5 M) := by
  intro n
  induction n with
  | zero =>
    intro x3 x4 x5 M hm
    exact Fr.none
  | succ n ih =>
    intro x3 x4 x5 M hm
    rw [F_X12_winsWith_b39]
    refine Fr.ite ?_ ?_
    · refine Fr.ite ?_ ?_
      · exact fr_X12_winsWith_b103 fu x1 x2 hk2 _ _ hm
      · exact Fr.some hm
    · refine Fr.ite ?_ ?_
      · refine Fr.ite Fr.none ?_
        exact fr_X12_winsWith_b86 fu x1 x2 hk2 ih _ _ _ _ _ hm
      · refine Fr.ite Fr.none ?_
        exact fr_X12_winsWith_b86 fu x1 x2 hk2 ih _ _ _ _ _ hm
theorem fr_X12_winsWith_b2 {M0 : xM} (fu : Nat)  (x1 : Int32) (x2 : Int32)  : ∀ (n : Nat) (x3 : Int32) (M : xM), xfr wr_X12_winsWith M0 M → Fr wr_X12_winsWith M0 Prod.snd (F_X12_winsWith_b2 fu x1 x2 n x3 M) := by
  intro n
  induction n with
  | zero =>
    intro x3 M hm
    exact Fr.none
  | succ n ih =>
    intro x3 M hm
    rw [F_X12_winsWith_b2]
    refine Fr.ite ?_ ?_
    · exact Fr.some hm
    · refine Fr.ite ?_ ?_
      · exact fr_X12_winsWith_b103 fu x1 x2 ih _ _ hm
      · refine Fr.ite Fr.none ?_
        refine Fr.ite Fr.none ?_
        refine Fr.ite ?_ ?_
        · exact fr_X12_winsWith_b39 fu x1 x2 ih fu _ _ _ _ hm
        · exact fr_X12_winsWith_b103 fu x1 x2 ih _ _ hm
theorem fr_X12_winsWith_b0 {M0 : xM} (fu : Nat)  (x1 : Int32) (x2 : Int32)   (M : xM) (hm : xfr wr_X12_winsWith M0 M) : Fr wr_X12_winsWith M0 Prod.snd (F_X12_winsWith fu x1 x2  M) := by
  unfold F_X12_winsWith
  exact fr_X12_winsWith_b2 fu x1 x2  fu _ _ hm
theorem fr_X12_winsWith (fu : Nat)  (x1 : Int32) (x2 : Int32) (M : xM) : Fr wr_X12_winsWith M Prod.snd (F_X12_winsWith fu x1 x2  M) := fr_X12_winsWith_b0 fu x1 x2  M xfr.rf
theorem fr_X12_costOf_b31 {M0 : xM} (fu : Nat)  (x1 : Int32) {k4 : Int32 → Int32 → xM → Option (Int32 × xM)} (hk4 : ∀ (b0 : Int32) (b1 : Int32) (M : xM), xfr wr_X12_costOf M0 M → Fr wr_X12_costOf M0 Prod.snd (k4 b0 b1 M)) (x3 : Int32) (s0 : Int32) (s1 : Int32) (M : xM) (hm : xfr wr_X12_costOf M0 M) : Fr wr_X12_costOf M0 Prod.snd (F_X12_costOf_b31 fu x1 k4 x3 s0 s1 M) := by
  unfold F_X12_costOf_b31
  exact hk4 _ _ _ hm
theorem fr_X12_costOf_b4 {M0 : xM} (fu : Nat)  (x1 : Int32)  : ∀ (n : Nat) (x2 : Int32) (x3 : Int32) (M : xM), xfr wr_X12_costOf M0 M → Fr wr_X12_costOf M0 Prod.snd (F_X12_costOf_b4 fu x1 n x2 x3 M) := by
  intro n
  induction n with
  | zero =>
    intro x2 x3 M hm
    exact Fr.none
  | succ n ih =>
    intro x2 x3 M hm
    rw [F_X12_costOf_b4]
    refine Fr.ite ?_ ?_
    · exact Fr.some hm
    · refine Fr.ite ?_ ?_
      · exact fr_X12_costOf_b31 fu x1 ih _ _ _ _ hm
      · refine Fr.ite Fr.none ?_
        exact fr_X12_costOf_b31 fu x1 ih _ _ _ _ hm
theorem fr_X12_costOf_b0 {M0 : xM} (fu : Nat)  (x1 : Int32)   (M : xM) (hm : xfr wr_X12_costOf M0 M) : Fr wr_X12_costOf M0 Prod.snd (F_X12_costOf fu x1  M) := by
  unfold F_X12_costOf
  exact fr_X12_costOf_b4 fu x1  fu _ _ _ hm
theorem fr_X12_costOf (fu : Nat)  (x1 : Int32) (M : xM) : Fr wr_X12_costOf M Prod.snd (F_X12_costOf fu x1  M) := fr_X12_costOf_b0 fu x1  M xfr.rf
theorem fr_X12_till_b70 {M0 : xM} (fu : Nat)  (x1 : Int32) (x2 : Int32) {k41 : Int32 → Int32 → xM → Option (Int32 × xM)} (hk41 : ∀ (b0 : Int32) (b1 : Int32) (M : xM), xfr wr_X12_till M0 M → Fr wr_X12_till M0 Prod.snd (k41 b0 b1 M)) (x4 : Int32) (s0 : Int32) (s1 : Int32) (M : xM) (hm : xfr wr_X12_till M0 M) : Fr wr_X12_till M0 Prod.snd (F_X12_till_b70 fu x1 x2 k41 x4 s0 s1 M) := by
  unfold F_X12_till_b70
  exact hk41 _ _ _ hm
theorem fr_X12_till_b166 {M0 : xM} (fu : Nat)  (x1 : Int32) (x2 : Int32) {k84 : Int32 → Int32 → Int32 → xM → Option (Int32 × xM)} (hk84 : ∀ (b0 : Int32) (b1 : Int32) (b2 : Int32) (M : xM), xfr wr_X12_till M0 M → Fr wr_X12_till M0 Prod.snd (k84 b0 b1 b2 M)) (x3 : Int32) (x4 : Int32) (x5 : Int32) (M : xM) (hm : xfr wr_X12_till M0 M) : Fr wr_X12_till M0 Prod.snd (F_X12_till_b166 fu x1 x2 k84 x3 x4 x5 M) := by
  unfold F_X12_till_b166
  exact hk84 _ _ _ _ hm
theorem fr_X12_till_b162 {M0 : xM} (fu : Nat)  (x1 : Int32) (x2 : Int32) {k84 : Int32 → Int32 → Int32 → xM → Option (Int32 × xM)} (hk84 : ∀ (b0 : Int32) (b1 : Int32) (b2 : Int32) (M : xM), xfr wr_X12_till M0 M → Fr wr_X12_till M0 Prod.snd (k84 b0 b1 b2 M)) (x3 : Int32) (x5 : Int32) (M : xM) (hm : xfr wr_X12_till M0 M) : Fr wr_X12_till M0 Prod.snd (F_X12_till_b162 fu x1 x2 k84 x3 x5 M) := by
  unfold F_X12_till_b162
  exact fr_X12_till_b166 fu x1 x2 hk84 _ _ _ _ hm
theorem fr_X12_till_b140 {M0 : xM} (fu : Nat)  (x1 : Int32) (x2 : Int32) {k84 : Int32 → Int32 → Int32 → xM → Option (Int32 × xM)} (hk84 : ∀ (b0 : Int32) (b1 : Int32) (b2 : Int32) (M : xM), xfr wr_X12_till M0 M → Fr wr_X12_till M0 Prod.snd (k84 b0 b1 b2 M)) (x3 : Int32) (x4 : Int32) (x5 : Int32) (s0 : Int32) (M : xM) (hm : xfr wr_X12_till M0 M) : Fr wr_X12_till M0 Prod.snd (F_X12_till_b140 fu x1 x2 k84 x3 x4 x5 s0 M) := by
  unfold F_X12_till_b140
  refine Fr.ite ?_ ?_
  · exact fr_X12_till_b162 fu x1 x2 hk84 _ _ _ hm
  · refine Fr.ite ?_ ?_
    · refine Fr.ite ?_ ?_
      · exact fr_X12_till_b166 fu x1 x2 hk84 _ _ _ _ hm
      · exact fr_X12_till_b162 fu x1 x2 hk84 _ _ _ hm
    · exact fr_X12_till_b166 fu x1 x2 hk84 _ _ _ _ hm
theorem fr_X12_till_b84 {M0 : xM} (fu : Nat)  (x1 : Int32) (x2 : Int32)  : ∀ (n : Nat) (x3 : Int32) (x4 : Int32) (x5 : Int32) (M : xM), xfr wr_X12_till M0 M → Fr wr_X12_till M0 Prod.snd (F_X12_till_b84 fu x1 x2 n x3 x4 x5 M) := by
  intro n
  induction n with
  | zero =>
    intro x3 x4 x5 M hm
    exact Fr.none
  | succ n ih =>
    intro x3 x4 x5 M hm
    rw [F_X12_till_b84]
    refine Fr.ite ?_ ?_
    · refine Fr.ite ?_ ?_
      · exact Fr.some hm
      · refine Fr.ite ?_ ?_
        · exact Fr.some hm
        · refine Fr.bind (fr_X12_costOf fu _ _) (by decide) hm (fun q1 hm => ?_)
          exact Fr.some hm
    · refine Fr.ite ?_ ?_
      · refine Fr.bind (fr_X12_winsWith fu _ _ _) (by decide) hm (fun q2 hm => ?_)
        refine Fr.ite ?_ ?_
        · exact fr_X12_till_b166 fu x1 x2 ih _ _ _ _ hm
        · refine Fr.ite ?_ ?_
          · exact fr_X12_till_b140 fu x1 x2 ih _ _ _ _ _ hm
          · refine Fr.bind (fr_X12_costOf fu _ _) (by decide) hm (fun q3 hm => ?_)
            refine Fr.bind (fr_X12_costOf fu _ _) (by decide) hm (fun q4 hm => ?_)
            exact fr_X12_till_b140 fu x1 x2 ih _ _ _ _ _ hm
      · exact fr_X12_till_b166 fu x1 x2 ih _ _ _ _ hm
theorem fr_X12_till_b41 {M0 : xM} (fu : Nat)  (x1 : Int32) (x2 : Int32)  : ∀ (n : Nat) (x3 : Int32) (x4 : Int32) (M : xM), xfr wr_X12_till M0 M → Fr wr_X12_till M0 Prod.snd (F_X12_till_b41 fu x1 x2 n x3 x4 M) := by
  intro n
  induction n with
  | zero =>
    intro x3 x4 M hm
    exact Fr.none
  | succ n ih =>
    intro x3 x4 M hm
    rw [F_X12_till_b41]
    refine Fr.ite ?_ ?_
    · exact fr_X12_till_b84 fu x1 x2  fu _ _ _ _ hm
    · refine Fr.ite Fr.none ?_
      refine Fr.ite ?_ ?_
      · exact fr_X12_till_b70 fu x1 x2 ih _ _ _ _ hm
      · exact fr_X12_till_b70 fu x1 x2 ih _ _ _ _ hm
theorem fr_X12_till_b0 {M0 : xM} (fu : Nat)  (x1 : Int32) (x2 : Int32)   (M : xM) (hm : xfr wr_X12_till M0 M) : Fr wr_X12_till M0 Prod.snd (F_X12_till fu x1 x2  M) := by
  unfold F_X12_till
  refine Fr.bind (fr_X12_isOfOffice _ _) (by decide) (by repeat first | exact hm | refine xfr.setf ?_ (by first | decide | exact xin_none (by decide) _)) (fun q1 hm => ?_)
  refine Fr.ite ?_ ?_
  · exact Fr.some (by repeat first | exact hm | refine xfr.setf ?_ (by first | decide | exact xin_none (by decide) _))
  · refine Fr.ite ?_ ?_
    · exact Fr.some (by repeat first | exact hm | refine xfr.setf ?_ (by first | decide | exact xin_none (by decide) _))
    · refine Fr.bind (fr_X12_areFound fu  _) (by decide) (by repeat first | exact hm | refine xfr.setf ?_ (by first | decide | exact xin_none (by decide) _)) (fun q2 hm => ?_)
      refine Fr.ite ?_ ?_
      · exact Fr.some (by repeat first | exact hm | refine xfr.setf ?_ (by first | decide | exact xin_none (by decide) _))
      · refine Fr.bind (fr_X12_layGains fu _ _) (by decide) (by repeat first | exact hm | refine xfr.setf ?_ (by first | decide | exact xin_none (by decide) _)) (fun q3 hm => ?_)
        exact fr_X12_till_b41 fu x1 x2  fu _ _ _ (by repeat first | exact hm | refine xfr.setf ?_ (by first | decide | exact xin_none (by decide) _))
theorem fr_X12_till (fu : Nat)  (x1 : Int32) (x2 : Int32) (M : xM) : Fr wr_X12_till M Prod.snd (F_X12_till fu x1 x2  M) := fr_X12_till_b0 fu x1 x2  M xfr.rf
theorem fr_X12_test_b0 {M0 : xM}  (x1 : Int32) (x2 : Int32)   (M : xM) (hm : xfr wr_X12_test M0 M) : Fr wr_X12_test M0 Prod.snd (F_X12_test x1 x2  M) := by
  unfold F_X12_test
  refine Fr.ite ?_ ?_
  · exact Fr.some (by repeat first | exact hm | refine xfr.setf ?_ (by first | decide | exact xin_none (by decide) _))
  · refine Fr.ite ?_ ?_
    · exact Fr.some (by repeat first | exact hm | refine xfr.setf ?_ (by first | decide | exact xin_none (by decide) _))
    · refine Fr.ite ?_ ?_
      · exact Fr.some (by repeat first | exact hm | refine xfr.setf ?_ (by first | decide | exact xin_none (by decide) _))
      · refine Fr.ite Fr.none ?_
        refine Fr.ite Fr.none ?_
        exact Fr.some (by repeat first | exact hm | refine xfr.setf ?_ (by first | decide | exact xin_none (by decide) _))
theorem fr_X12_test  (x1 : Int32) (x2 : Int32) (M : xM) : Fr wr_X12_test M Prod.snd (F_X12_test  x1 x2  M) := fr_X12_test_b0 x1 x2  M xfr.rf
theorem fr_X12_isLetNow_b64 {M0 : xM} (fu : Nat)  (x1 : Int32) {k2 : Int32 → xM → Option (Int32 × xM)} (hk2 : ∀ (b0 : Int32) (M : xM), xfr wr_X12_isLetNow M0 M → Fr wr_X12_isLetNow M0 Prod.snd (k2 b0 M)) {k15 : Int32 → Int32 → Int32 → xM → Option (Int32 × xM)} (hk15 : ∀ (b0 : Int32) (b1 : Int32) (b2 : Int32) (M : xM), xfr wr_X12_isLetNow M0 M → Fr wr_X12_isLetNow M0 Prod.snd (k15 b0 b1 b2 M)) (x2 : Int32) (x4 : Int32) (s0 : Int32) (M : xM) (hm : xfr wr_X12_isLetNow M0 M) : Fr wr_X12_isLetNow M0 Prod.snd (F_X12_isLetNow_b64 fu x1 k2 k15 x2 x4 s0 M) := by
  unfold F_X12_isLetNow_b64
  exact hk15 _ _ _ _ hm
theorem fr_X12_isLetNow_b59 {M0 : xM} (fu : Nat)  (x1 : Int32) {k2 : Int32 → xM → Option (Int32 × xM)} (hk2 : ∀ (b0 : Int32) (M : xM), xfr wr_X12_isLetNow M0 M → Fr wr_X12_isLetNow M0 Prod.snd (k2 b0 M)) {k15 : Int32 → Int32 → Int32 → xM → Option (Int32 × xM)} (hk15 : ∀ (b0 : Int32) (b1 : Int32) (b2 : Int32) (M : xM), xfr wr_X12_isLetNow M0 M → Fr wr_X12_isLetNow M0 Prod.snd (k15 b0 b1 b2 M)) (x2 : Int32) (x4 : Int32) (M : xM) (hm : xfr wr_X12_isLetNow M0 M) : Fr wr_X12_isLetNow M0 Prod.snd (F_X12_isLetNow_b59 fu x1 k2 k15 x2 x4 M) := by
  unfold F_X12_isLetNow_b59
  exact fr_X12_isLetNow_b64 fu x1 hk2 hk15 _ _ _ _ hm
theorem fr_X12_isLetNow_b63 {M0 : xM} (fu : Nat)  (x1 : Int32) {k2 : Int32 → xM → Option (Int32 × xM)} (hk2 : ∀ (b0 : Int32) (M : xM), xfr wr_X12_isLetNow M0 M → Fr wr_X12_isLetNow M0 Prod.snd (k2 b0 M)) {k15 : Int32 → Int32 → Int32 → xM → Option (Int32 × xM)} (hk15 : ∀ (b0 : Int32) (b1 : Int32) (b2 : Int32) (M : xM), xfr wr_X12_isLetNow M0 M → Fr wr_X12_isLetNow M0 Prod.snd (k15 b0 b1 b2 M)) (x2 : Int32) (x4 : Int32) (M : xM) (hm : xfr wr_X12_isLetNow M0 M) : Fr wr_X12_isLetNow M0 Prod.snd (F_X12_isLetNow_b63 fu x1 k2 k15 x2 x4 M) := by
  unfold F_X12_isLetNow_b63
  exact fr_X12_isLetNow_b64 fu x1 hk2 hk15 _ _ _ _ hm
theorem fr_X12_isLetNow_b89 {M0 : xM} (fu : Nat)  (x1 : Int32) {k2 : Int32 → xM → Option (Int32 × xM)} (hk2 : ∀ (b0 : Int32) (M : xM), xfr wr_X12_isLetNow M0 M → Fr wr_X12_isLetNow M0 Prod.snd (k2 b0 M)) (x2 : Int32) (M : xM) (hm : xfr wr_X12_isLetNow M0 M) : Fr wr_X12_isLetNow M0 Prod.snd (F_X12_isLetNow_b89 fu x1 k2 x2 M) := by
  unfold F_X12_isLetNow_b89
  exact hk2 _ _ hm
theorem fr_X12_isLetNow_b15 {M0 : xM} (fu : Nat)  (x1 : Int32) {k2 : Int32 → xM → Option (Int32 × xM)} (hk2 : ∀ (b0 : Int32) (M : xM), xfr wr_X12_isLetNow M0 M → Fr wr_X12_isLetNow M0 Prod.snd (k2 b0 M)) : ∀ (n : Nat) (x2 : Int32) (x3 : Int32) (x4 : Int32) (M : xM), xfr wr_X12_isLetNow M0 M → Fr wr_X12_isLetNow M0 Prod.snd (F_X12_isLetNow_b15 fu x1 k2 n x2 x3 x4 M) := by
  intro n
  induction n with
  | zero =>
    intro x2 x3 x4 M hm
    exact Fr.none
  | succ n ih =>
    intro x2 x3 x4 M hm
    rw [F_X12_isLetNow_b15]
    refine Fr.ite ?_ ?_
    · refine Fr.ite ?_ ?_
      · refine Fr.bind (fr_X12_against fu _ _) (by decide) hm (fun q1 hm => ?_)
        refine Fr.ite ?_ ?_
        · exact fr_X12_isLetNow_b89 fu x1 hk2 _ _ hm
        · exact Fr.some hm
      · exact fr_X12_isLetNow_b89 fu x1 hk2 _ _ hm
    · refine Fr.ite ?_ ?_
      · refine Fr.ite ?_ ?_
        · exact fr_X12_isLetNow_b63 fu x1 hk2 ih _ _ _ hm
        · refine Fr.ite Fr.none ?_
          refine Fr.ite Fr.none ?_
          refine Fr.ite ?_ ?_
          · exact fr_X12_isLetNow_b59 fu x1 hk2 ih _ _ _ hm
          · exact fr_X12_isLetNow_b63 fu x1 hk2 ih _ _ _ hm
      · exact fr_X12_isLetNow_b59 fu x1 hk2 ih _ _ _ hm
theorem fr_X12_isLetNow_b2 {M0 : xM} (fu : Nat)  (x1 : Int32)  : ∀ (n : Nat) (x2 : Int32) (M : xM), xfr wr_X12_isLetNow M0 M → Fr wr_X12_isLetNow M0 Prod.snd (F_X12_isLetNow_b2 fu x1 n x2 M) := by
  intro n
  induction n with
  | zero =>
    intro x2 M hm
    exact Fr.none
  | succ n ih =>
    intro x2 M hm
    rw [F_X12_isLetNow_b2]
    refine Fr.ite ?_ ?_
    · exact Fr.some hm
    · exact fr_X12_isLetNow_b15 fu x1 ih fu _ _ _ _ hm
theorem fr_X12_isLetNow_b0 {M0 : xM} (fu : Nat)  (x1 : Int32)   (M : xM) (hm : xfr wr_X12_isLetNow M0 M) : Fr wr_X12_isLetNow M0 Prod.snd (F_X12_isLetNow fu x1  M) := by
  unfold F_X12_isLetNow
  exact fr_X12_isLetNow_b2 fu x1  fu _ _ hm
theorem fr_X12_isLetNow (fu : Nat)  (x1 : Int32) (M : xM) : Fr wr_X12_isLetNow M Prod.snd (F_X12_isLetNow fu x1  M) := fr_X12_isLetNow_b0 fu x1  M xfr.rf
theorem fr_X12_behind_b59 {M0 : xM} (fu : Nat)  (x1 : Int32) (x2 : Int32) {k5 : Int32 → Int32 → xM → Option (Int32 × xM)} (hk5 : ∀ (b0 : Int32) (b1 : Int32) (M : xM), xfr wr_X12_behind M0 M → Fr wr_X12_behind M0 Prod.snd (k5 b0 b1 M)) (x3 : Int32) (x4 : Int32) (M : xM) (hm : xfr wr_X12_behind M0 M) : Fr wr_X12_behind M0 Prod.snd (F_X12_behind_b59 fu x1 x2 k5 x3 x4 M) := by
  unfold F_X12_behind_b59
  exact hk5 _ _ _ hm
theorem fr_X12_behind_b5 {M0 : xM} (fu : Nat)  (x1 : Int32) (x2 : Int32)  : ∀ (n : Nat) (x3 : Int32) (x4 : Int32) (M : xM), xfr wr_X12_behind M0 M → Fr wr_X12_behind M0 Prod.snd (F_X12_behind_b5 fu x1 x2 n x3 x4 M) := by
  intro n
  induction n with
  | zero =>
    intro x3 x4 M hm
    exact Fr.none
  | succ n ih =>
    intro x3 x4 M hm
    rw [F_X12_behind_b5]
    refine Fr.ite ?_ ?_
    · refine Fr.bind (fr_X12_shown _ _ _) (by decide) hm (fun q1 hm => ?_)
      exact Fr.some hm
    · refine Fr.ite Fr.none ?_
      refine Fr.ite ?_ ?_
      · refine Fr.ite Fr.none ?_
        refine Fr.ite ?_ ?_
        · exact fr_X12_behind_b59 fu x1 x2 ih _ _ _ hm
        · refine Fr.ite Fr.none ?_
          refine Fr.bind (fr_X12_isLetNow fu _ _) (by decide) hm (fun q2 hm => ?_)
          refine Fr.ite ?_ ?_
          · exact fr_X12_behind_b59 fu x1 x2 ih _ _ _ hm
          · refine Fr.ite Fr.none ?_
            exact fr_X12_behind_b59 fu x1 x2 ih _ _ _ hm
      · exact fr_X12_behind_b59 fu x1 x2 ih _ _ _ hm
theorem fr_X12_behind_b0 {M0 : xM} (fu : Nat)  (x1 : Int32) (x2 : Int32)   (M : xM) (hm : xfr wr_X12_behind M0 M) : Fr wr_X12_behind M0 Prod.snd (F_X12_behind fu x1 x2  M) := by
  unfold F_X12_behind
  exact fr_X12_behind_b5 fu x1 x2  fu _ _ _ hm
theorem fr_X12_behind (fu : Nat)  (x1 : Int32) (x2 : Int32) (M : xM) : Fr wr_X12_behind M Prod.snd (F_X12_behind fu x1 x2  M) := fr_X12_behind_b0 fu x1 x2  M xfr.rf
theorem fr_X12_seesOne_b88 {M0 : xM} (fu : Nat)  (x1 : Int32) (x2 : Int32) (x3 : Int32) {k49 : Int32 → xM → Option (Int32 × xM)} (hk49 : ∀ (b0 : Int32) (M : xM), xfr wr_X12_seesOne M0 M → Fr wr_X12_seesOne M0 Prod.snd (k49 b0 M)) (x4 : Int32) (M : xM) (hm : xfr wr_X12_seesOne M0 M) : Fr wr_X12_seesOne M0 Prod.snd (F_X12_seesOne_b88 fu x1 x2 x3 k49 x4 M) := by
  unfold F_X12_seesOne_b88
  exact hk49 _ _ hm
theorem fr_X12_seesOne_b49 {M0 : xM} (fu : Nat)  (x1 : Int32) (x2 : Int32) (x3 : Int32)  : ∀ (n : Nat) (x4 : Int32) (M : xM), xfr wr_X12_seesOne M0 M → Fr wr_X12_seesOne M0 Prod.snd (F_X12_seesOne_b49 fu x1 x2 x3 n x4 M) := by
  intro n
  induction n with
  | zero =>
    intro x4 M hm
    exact Fr.none
  | succ n ih =>
    intro x4 M hm
    rw [F_X12_seesOne_b49]
    refine Fr.ite ?_ ?_
    · exact Fr.some hm
    · refine Fr.ite Fr.none ?_
      refine Fr.ite ?_ ?_
      · exact fr_X12_seesOne_b88 fu x1 x2 x3 ih _ _ hm
      · refine Fr.bind (fr_X12_behind fu _ _ _) (by decide) hm (fun q1 hm => ?_)
        refine Fr.ite Fr.none ?_
        refine Fr.ite ?_ ?_
        · exact fr_X12_seesOne_b88 fu x1 x2 x3 ih _ _ hm
        · exact Fr.some hm
theorem fr_X12_seesOne_b9 {M0 : xM} (fu : Nat)  (x1 : Int32) (x2 : Int32) (x3 : Int32)  : ∀ (n : Nat) (x4 : Int32) (M : xM), xfr wr_X12_seesOne M0 M → Fr wr_X12_seesOne M0 Prod.snd (F_X12_seesOne_b9 fu x1 x2 x3 n x4 M) := by
  intro n
  induction n with
  | zero =>
    intro x4 M hm
    exact Fr.none
  | succ n ih =>
    intro x4 M hm
    rw [F_X12_seesOne_b9]
    refine Fr.ite ?_ ?_
    · refine Fr.bind (fr_X12_lay fu _ _ _) (by decide) (by repeat first | exact hm | refine xfr.setf ?_ (by first | decide | exact xin_none (by decide) _)) (fun q1 hm => ?_)
      exact fr_X12_seesOne_b49 fu x1 x2 x3  fu _ _ (by repeat first | exact hm | refine xfr.setf ?_ (by first | decide | exact xin_none (by decide) _))
    · refine Fr.bind (fr_X12_behind fu _ _ _) (by decide) (by repeat first | exact hm | refine xfr.setf ?_ (by first | decide | exact xin_none (by decide) _)) (fun q2 hm => ?_)
      refine Fr.ite Fr.none ?_
      exact ih _ _ (by repeat first | exact hm | refine xfr.setf ?_ (by first | decide | exact xin_none (by decide) _))
theorem fr_X12_seesOne_b0 {M0 : xM} (fu : Nat)  (x1 : Int32) (x2 : Int32) (x3 : Int32)   (M : xM) (hm : xfr wr_X12_seesOne M0 M) : Fr wr_X12_seesOne M0 Prod.snd (F_X12_seesOne fu x1 x2 x3  M) := by
  unfold F_X12_seesOne
  refine Fr.bind (fr_X12_lay fu _ _ _) (by decide) hm (fun q1 hm => ?_)
  exact fr_X12_seesOne_b9 fu x1 x2 x3  fu _ _ hm
theorem fr_X12_seesOne (fu : Nat)  (x1 : Int32) (x2 : Int32) (x3 : Int32) (M : xM) : Fr wr_X12_seesOne M Prod.snd (F_X12_seesOne fu x1 x2 x3  M) := fr_X12_seesOne_b0 fu x1 x2 x3  M xfr.rf
theorem fr_X12_seesOf_b36 {M0 : xM} (fu : Nat)  (x1 : Int32) (x2 : Int32) {k5 : Int32 → Int32 → xM → Option (Int32 × xM)} (hk5 : ∀ (b0 : Int32) (b1 : Int32) (M : xM), xfr wr_X12_seesOf M0 M → Fr wr_X12_seesOf M0 Prod.snd (k5 b0 b1 M)) (x4 : Int32) (s0 : Int32) (s1 : Int32) (M : xM) (hm : xfr wr_X12_seesOf M0 M) : Fr wr_X12_seesOf M0 Prod.snd (F_X12_seesOf_b36 fu x1 x2 k5 x4 s0 s1 M) := by
  unfold F_X12_seesOf_b36
  exact hk5 _ _ _ hm
theorem fr_X12_seesOf_b5 {M0 : xM} (fu : Nat)  (x1 : Int32) (x2 : Int32)  : ∀ (n : Nat) (x3 : Int32) (x4 : Int32) (M : xM), xfr wr_X12_seesOf M0 M → Fr wr_X12_seesOf M0 Prod.snd (F_X12_seesOf_b5 fu x1 x2 n x3 x4 M) := by
  intro n
  induction n with
  | zero =>
    intro x3 x4 M hm
    exact Fr.none
  | succ n ih =>
    intro x3 x4 M hm
    rw [F_X12_seesOf_b5]
    refine Fr.ite Fr.none ?_
    refine Fr.ite ?_ ?_
    · exact Fr.some hm
    · refine Fr.bind (fr_X12_seesOne fu _ _ _ _) (by decide) hm (fun q1 hm => ?_)
      refine Fr.ite ?_ ?_
      · exact fr_X12_seesOf_b36 fu x1 x2 ih _ _ _ _ hm
      · exact fr_X12_seesOf_b36 fu x1 x2 ih _ _ _ _ hm
theorem fr_X12_seesOf_b0 {M0 : xM} (fu : Nat)  (x1 : Int32) (x2 : Int32)   (M : xM) (hm : xfr wr_X12_seesOf M0 M) : Fr wr_X12_seesOf M0 Prod.snd (F_X12_seesOf fu x1 x2  M) := by
  unfold F_X12_seesOf
  exact fr_X12_seesOf_b5 fu x1 x2  fu _ _ _ hm
theorem fr_X12_seesOf (fu : Nat)  (x1 : Int32) (x2 : Int32) (M : xM) : Fr wr_X12_seesOf M Prod.snd (F_X12_seesOf fu x1 x2  M) := fr_X12_seesOf_b0 fu x1 x2  M xfr.rf
theorem fr_X12_sees_b0 {M0 : xM} (fu : Nat)  (x1 : Int32) (x2 : Int32)   (M : xM) (hm : xfr wr_X12_sees M0 M) : Fr wr_X12_sees M0 Prod.snd (F_X12_sees fu x1 x2  M) := by
  unfold F_X12_sees
  refine Fr.ite ?_ ?_
  · exact Fr.some (by repeat first | exact hm | refine xfr.setf ?_ (by first | decide | exact xin_none (by decide) _))
  · refine Fr.ite ?_ ?_
    · exact Fr.some (by repeat first | exact hm | refine xfr.setf ?_ (by first | decide | exact xin_none (by decide) _))
    · refine Fr.bind (fr_X12_seesOf fu _ _ _) (by decide) (by repeat first | exact hm | refine xfr.setf ?_ (by first | decide | exact xin_none (by decide) _)) (fun q1 hm => ?_)
      exact Fr.some (by repeat first | exact hm | refine xfr.setf ?_ (by first | decide | exact xin_none (by decide) _))
theorem fr_X12_sees (fu : Nat)  (x1 : Int32) (x2 : Int32) (M : xM) : Fr wr_X12_sees M Prod.snd (F_X12_sees fu x1 x2  M) := fr_X12_sees_b0 fu x1 x2  M xfr.rf
theorem fr_X12_seenBy_b31 {M0 : xM} (fu : Nat)  (x1 : Int32) {k4 : Int32 → Int32 → xM → Option (Int32 × xM)} (hk4 : ∀ (b0 : Int32) (b1 : Int32) (M : xM), xfr wr_X12_seenBy M0 M → Fr wr_X12_seenBy M0 Prod.snd (k4 b0 b1 M)) (x3 : Int32) (s0 : Int32) (s1 : Int32) (M : xM) (hm : xfr wr_X12_seenBy M0 M) : Fr wr_X12_seenBy M0 Prod.snd (F_X12_seenBy_b31 fu x1 k4 x3 s0 s1 M) := by
  unfold F_X12_seenBy_b31
  exact hk4 _ _ _ hm
theorem fr_X12_seenBy_b4 {M0 : xM} (fu : Nat)  (x1 : Int32)  : ∀ (n : Nat) (x2 : Int32) (x3 : Int32) (M : xM), xfr wr_X12_seenBy M0 M → Fr wr_X12_seenBy M0 Prod.snd (F_X12_seenBy_b4 fu x1 n x2 x3 M) := by
  intro n
  induction n with
  | zero =>
    intro x2 x3 M hm
    exact Fr.none
  | succ n ih =>
    intro x2 x3 M hm
    rw [F_X12_seenBy_b4]
    refine Fr.ite ?_ ?_
    · exact Fr.some hm
    · refine Fr.ite ?_ ?_
      · exact fr_X12_seenBy_b31 fu x1 ih _ _ _ _ hm
      · refine Fr.ite Fr.none ?_
        exact fr_X12_seenBy_b31 fu x1 ih _ _ _ _ hm
theorem fr_X12_seenBy_b0 {M0 : xM} (fu : Nat)  (x1 : Int32)   (M : xM) (hm : xfr wr_X12_seenBy M0 M) : Fr wr_X12_seenBy M0 Prod.snd (F_X12_seenBy fu x1  M) := by
  unfold F_X12_seenBy
  exact fr_X12_seenBy_b4 fu x1  fu _ _ _ hm
theorem fr_X12_seenBy (fu : Nat)  (x1 : Int32) (M : xM) : Fr wr_X12_seenBy M Prod.snd (F_X12_seenBy fu x1  M) := fr_X12_seenBy_b0 fu x1  M xfr.rf
theorem fr_X12_cover_b99 {M0 : xM} (fu : Nat)  (x1 : Int32) {k61 : Int32 → Int32 → Int32 → xM → Option (Int32 × xM)} (hk61 : ∀ (b0 : Int32) (b1 : Int32) (b2 : Int32) (M : xM), xfr wr_X12_cover M0 M → Fr wr_X12_cover M0 Prod.snd (k61 b0 b1 b2 M)) (x2 : Int32) (x3 : Int32) (x4 : Int32) (M : xM) (hm : xfr wr_X12_cover M0 M) : Fr wr_X12_cover M0 Prod.snd (F_X12_cover_b99 fu x1 k61 x2 x3 x4 M) := by
  unfold F_X12_cover_b99
  exact hk61 _ _ _ _ hm
theorem fr_X12_cover_b96 {M0 : xM} (fu : Nat)  (x1 : Int32) {k61 : Int32 → Int32 → Int32 → xM → Option (Int32 × xM)} (hk61 : ∀ (b0 : Int32) (b1 : Int32) (b2 : Int32) (M : xM), xfr wr_X12_cover M0 M → Fr wr_X12_cover M0 Prod.snd (k61 b0 b1 b2 M)) (x2 : Int32) (x4 : Int32) (M : xM) (hm : xfr wr_X12_cover M0 M) : Fr wr_X12_cover M0 Prod.snd (F_X12_cover_b96 fu x1 k61 x2 x4 M) := by
  unfold F_X12_cover_b96
  exact fr_X12_cover_b99 fu x1 hk61 _ _ _ _ hm
theorem fr_X12_cover_b61 {M0 : xM} (fu : Nat)  (x1 : Int32)  : ∀ (n : Nat) (x2 : Int32) (x3 : Int32) (x4 : Int32) (M : xM), xfr wr_X12_cover M0 M → Fr wr_X12_cover M0 Prod.snd (F_X12_cover_b61 fu x1 n x2 x3 x4 M) := by
  intro n
  induction n with
  | zero =>
    intro x2 x3 x4 M hm
    exact Fr.none
  | succ n ih =>
    intro x2 x3 x4 M hm
    rw [F_X12_cover_b61]
    refine Fr.ite ?_ ?_
    · exact Fr.some hm
    · refine Fr.bind (fr_X12_seenBy fu _ _) (by decide) hm (fun q1 hm => ?_)
      refine Fr.ite ?_ ?_
      · refine Fr.ite ?_ ?_
        · exact fr_X12_cover_b96 fu x1 ih _ _ _ hm
        · refine Fr.ite ?_ ?_
          · exact fr_X12_cover_b99 fu x1 ih _ _ _ _ hm
          · exact fr_X12_cover_b96 fu x1 ih _ _ _ hm
      · exact fr_X12_cover_b99 fu x1 ih _ _ _ _ hm
theorem fr_X12_cover_b17 {M0 : xM} (fu : Nat)  (x1 : Int32)  : ∀ (n : Nat) (x2 : Int32) (M : xM), xfr wr_X12_cover M0 M → Fr wr_X12_cover M0 Prod.snd (F_X12_cover_b17 fu x1 n x2 M) := by
  intro n
  induction n with
  | zero =>
    intro x2 M hm
    exact Fr.none
  | succ n ih =>
    intro x2 M hm
    rw [F_X12_cover_b17]
    refine Fr.ite ?_ ?_
    · refine Fr.bind (fr_X12_seenBy fu _ _) (by decide) (by repeat first | exact hm | refine xfr.setf ?_ (by first | decide | exact xin_none (by decide) _)) (fun q1 hm => ?_)
      exact fr_X12_cover_b61 fu x1  fu _ _ _ _ (by repeat first | exact hm | refine xfr.setf ?_ (by first | decide | exact xin_none (by decide) _))
    · refine Fr.bind (fr_X12_seesOf fu _ _ _) (by decide) (by repeat first | exact hm | refine xfr.setf ?_ (by first | decide | exact xin_none (by decide) _)) (fun q2 hm => ?_)
      refine Fr.ite Fr.none ?_
      exact ih _ _ (by repeat first | exact hm | refine xfr.setf ?_ (by first | decide | exact xin_none (by decide) _))
theorem fr_X12_cover_b0 {M0 : xM} (fu : Nat)  (x1 : Int32)   (M : xM) (hm : xfr wr_X12_cover M0 M) : Fr wr_X12_cover M0 Prod.snd (F_X12_cover fu x1  M) := by
  unfold F_X12_cover
  refine Fr.ite ?_ ?_
  · exact Fr.some (by repeat first | exact hm | refine xfr.setf ?_ (by first | decide | exact xin_none (by decide) _))
  · exact fr_X12_cover_b17 fu x1  fu _ _ (by repeat first | exact hm | refine xfr.setf ?_ (by first | decide | exact xin_none (by decide) _))
theorem fr_X12_cover (fu : Nat)  (x1 : Int32) (M : xM) : Fr wr_X12_cover M Prod.snd (F_X12_cover fu x1  M) := fr_X12_cover_b0 fu x1  M xfr.rf
theorem fr_X12_layNames_b52 {M0 : xM} (fu : Nat)  (x1 : Int32) (x2 : Int64) {k8 : Int32 → xM → Option (xM)} (hk8 : ∀ (b0 : Int32) (M : xM), xfr wr_X12_layNames M0 M → Fr wr_X12_layNames M0 id (k8 b0 M)) (x4 : Int32) (M : xM) (hm : xfr wr_X12_layNames M0 M) : Fr wr_X12_layNames M0 id (F_X12_layNames_b52 fu x1 x2 k8 x4 M) := by
  unfold F_X12_layNames_b52
  exact hk8 _ _ hm
theorem fr_X12_layNames_b69 {M0 : xM} (fu : Nat)  (x1 : Int32) (x2 : Int64)  : ∀ (n : Nat) (x4 : Int64) (x6 : Int32) (M : xM), xfr wr_X12_layNames M0 M → Fr wr_X12_layNames M0 id (F_X12_layNames_b69 fu x1 x2 n x4 x6 M) := by
  intro n
  induction n with
  | zero =>
    intro x4 x6 M hm
    exact Fr.none
  | succ n ih =>
    intro x4 x6 M hm
    rw [F_X12_layNames_b69]
    refine Fr.ite ?_ ?_
    · exact Fr.somev (by repeat first | exact hm | refine xfr.setf ?_ (by first | decide | exact xin_none (by decide) _))
    · refine Fr.ite Fr.none ?_
      refine Fr.ite Fr.none ?_
      refine Fr.ite Fr.none ?_
      refine Fr.ite Fr.none ?_
      refine Fr.ite Fr.none ?_
      exact ih _ _ _ (by repeat first | exact hm | refine xfr.setf ?_ (by first | decide | exact xin_none (by decide) _))
theorem fr_X12_layNames_b8 {M0 : xM} (fu : Nat)  (x1 : Int32) (x2 : Int64)  : ∀ (n : Nat) (x4 : Int32) (M : xM), xfr wr_X12_layNames M0 M → Fr wr_X12_layNames M0 id (F_X12_layNames_b8 fu x1 x2 n x4 M) := by
  intro n
  induction n with
  | zero =>
    intro x4 M hm
    exact Fr.none
  | succ n ih =>
    intro x4 M hm
    rw [F_X12_layNames_b8]
    refine Fr.ite ?_ ?_
    · exact fr_X12_layNames_b69 fu x1 x2  fu _ _ _ (by repeat first | exact hm | refine xfr.setf ?_ (by first | decide | exact xin_none (by decide) _))
    · refine Fr.ite Fr.none ?_
      refine Fr.ite ?_ ?_
      · refine Fr.ite Fr.none ?_
        exact fr_X12_layNames_b52 fu x1 x2 ih _ _ (by repeat first | exact hm | refine xfr.setf ?_ (by first | decide | exact xin_none (by decide) _))
      · exact fr_X12_layNames_b52 fu x1 x2 ih _ _ (by repeat first | exact hm | refine xfr.setf ?_ (by first | decide | exact xin_none (by decide) _))
theorem fr_X12_layNames_b0 {M0 : xM} (fu : Nat)  (x1 : Int32) (x2 : Int64)   (M : xM) (hm : xfr wr_X12_layNames M0 M) : Fr wr_X12_layNames M0 id (F_X12_layNames fu x1 x2  M) := by
  unfold F_X12_layNames
  exact fr_X12_layNames_b8 fu x1 x2  fu _ _ (by repeat first | exact hm | refine xfr.setf ?_ (by first | decide | exact xin_none (by decide) _))
theorem fr_X12_layNames (fu : Nat)  (x1 : Int32) (x2 : Int64) (M : xM) : Fr wr_X12_layNames M id (F_X12_layNames fu x1 x2  M) := fr_X12_layNames_b0 fu x1 x2  M xfr.rf
theorem fr_X12_nameAt_b0 {M0 : xM}  (x1 : Int32) (x2 : Int32)   (M : xM) (hm : xfr wr_X12_nameAt M0 M) : Fr wr_X12_nameAt M0 Prod.snd (F_X12_nameAt x1 x2  M) := by
  unfold F_X12_nameAt
  refine Fr.ite Fr.none ?_
  refine Fr.ite Fr.none ?_
  refine Fr.ite Fr.none ?_
  exact Fr.some hm
theorem fr_X12_nameAt  (x1 : Int32) (x2 : Int32) (M : xM) : Fr wr_X12_nameAt M Prod.snd (F_X12_nameAt  x1 x2  M) := fr_X12_nameAt_b0 x1 x2  M xfr.rf
theorem fr_X12_name_b0 {M0 : xM} (fu : Nat)  (x1 : Int32) (x2 : Int64) (x4 : Int32) (x5 : Int32)   (M : xM) (hm : xfr wr_X12_name M0 M) : Fr wr_X12_name M0 Prod.snd (F_X12_name fu x1 x2 x4 x5  M) := by
  unfold F_X12_name
  refine Fr.ite ?_ ?_
  · exact Fr.some (by repeat first | exact hm | refine xfr.setf ?_ (by first | decide | exact xin_none (by decide) _))
  · refine Fr.ite ?_ ?_
    · exact Fr.some (by repeat first | exact hm | refine xfr.setf ?_ (by first | decide | exact xin_none (by decide) _))
    · refine Fr.ite Fr.none ?_
      refine Fr.ite ?_ ?_
      · exact Fr.some (by repeat first | exact hm | refine xfr.setf ?_ (by first | decide | exact xin_none (by decide) _))
      · refine Fr.bind (fr_X12_layNames fu _ _ _) (by decide) (by repeat first | exact hm | refine xfr.setf ?_ (by first | decide | exact xin_none (by decide) _)) (fun q1 hm => ?_)
        refine Fr.bind (fr_X12_nameAt _ _ _) (by decide) (by repeat first | exact hm | refine xfr.setf ?_ (by first | decide | exact xin_none (by decide) _)) (fun q2 hm => ?_)
        exact Fr.some (by repeat first | exact hm | refine xfr.setf ?_ (by first | decide | exact xin_none (by decide) _))
theorem fr_X12_name (fu : Nat)  (x1 : Int32) (x2 : Int64) (x4 : Int32) (x5 : Int32) (M : xM) : Fr wr_X12_name M Prod.snd (F_X12_name fu x1 x2 x4 x5  M) := fr_X12_name_b0 fu x1 x2 x4 x5  M xfr.rf
theorem fr_X12_first_b68 {M0 : xM} (fu : Nat)  (x1 : Int32) (x2 : Int64) (x4 : Int32) {k43 : Int32 → Int32 → xM → Option (Int32 × xM)} (hk43 : ∀ (b0 : Int32) (b1 : Int32) (M : xM), xfr wr_X12_first M0 M → Fr wr_X12_first M0 Prod.snd (k43 b0 b1 M)) (x6 : Int32) (s0 : Int32) (s1 : Int32) (M : xM) (hm : xfr wr_X12_first M0 M) : Fr wr_X12_first M0 Prod.snd (F_X12_first_b68 fu x1 x2 x4 k43 x6 s0 s1 M) := by
  unfold F_X12_first_b68
  exact hk43 _ _ _ hm
theorem fr_X12_first_b43 {M0 : xM} (fu : Nat)  (x1 : Int32) (x2 : Int64) (x4 : Int32)  : ∀ (n : Nat) (x5 : Int32) (x6 : Int32) (M : xM), xfr wr_X12_first M0 M → Fr wr_X12_first M0 Prod.snd (F_X12_first_b43 fu x1 x2 x4 n x5 x6 M) := by
  intro n
  induction n with
  | zero =>
    intro x5 x6 M hm
    exact Fr.none
  | succ n ih =>
    intro x5 x6 M hm
    rw [F_X12_first_b43]
    refine Fr.ite ?_ ?_
    · exact Fr.some hm
    · refine Fr.bind (fr_X12_nameAt _ _ _) (by decide) hm (fun q1 hm => ?_)
      refine Fr.ite ?_ ?_
      · exact fr_X12_first_b68 fu x1 x2 x4 ih _ _ _ _ hm
      · exact fr_X12_first_b68 fu x1 x2 x4 ih _ _ _ _ hm
theorem fr_X12_first_b0 {M0 : xM} (fu : Nat)  (x1 : Int32) (x2 : Int64) (x4 : Int32)   (M : xM) (hm : xfr wr_X12_first M0 M) : Fr wr_X12_first M0 Prod.snd (F_X12_first fu x1 x2 x4  M) := by
  unfold F_X12_first
  refine Fr.bind (fr_X12_isOfOffice _ _) (by decide) (by repeat first | exact hm | refine xfr.setf ?_ (by first | decide | exact xin_none (by decide) _)) (fun q1 hm => ?_)
  refine Fr.ite ?_ ?_
  · exact Fr.some (by repeat first | exact hm | refine xfr.setf ?_ (by first | decide | exact xin_none (by decide) _))
  · refine Fr.ite ?_ ?_
    · exact Fr.some (by repeat first | exact hm | refine xfr.setf ?_ (by first | decide | exact xin_none (by decide) _))
    · refine Fr.ite Fr.none ?_
      refine Fr.bind (fr_X12_layNames fu _ _ _) (by decide) (by repeat first | exact hm | refine xfr.setf ?_ (by first | decide | exact xin_none (by decide) _)) (fun q2 hm => ?_)
      exact fr_X12_first_b43 fu x1 x2 x4  fu _ _ _ (by repeat first | exact hm | refine xfr.setf ?_ (by first | decide | exact xin_none (by decide) _))
theorem fr_X12_first (fu : Nat)  (x1 : Int32) (x2 : Int64) (x4 : Int32) (M : xM) : Fr wr_X12_first M Prod.snd (F_X12_first fu x1 x2 x4  M) := fr_X12_first_b0 fu x1 x2 x4  M xfr.rf
theorem fr_X12_isText_b68 {M0 : xM} (fu : Nat)  (x1 : Int32) {k21 : Int32 → xM → Option (Int32 × xM)} (hk21 : ∀ (b0 : Int32) (M : xM), xfr wr_X12_isText M0 M → Fr wr_X12_isText M0 Prod.snd (k21 b0 M)) (x2 : Int32) (M : xM) (hm : xfr wr_X12_isText M0 M) : Fr wr_X12_isText M0 Prod.snd (F_X12_isText_b68 fu x1 k21 x2 M) := by
  unfold F_X12_isText_b68
  exact hk21 _ _ hm
theorem fr_X12_isText_b51 {M0 : xM} (fu : Nat)  (x1 : Int32) {k21 : Int32 → xM → Option (Int32 × xM)} (hk21 : ∀ (b0 : Int32) (M : xM), xfr wr_X12_isText M0 M → Fr wr_X12_isText M0 Prod.snd (k21 b0 M)) (x2 : Int32) (M : xM) (hm : xfr wr_X12_isText M0 M) : Fr wr_X12_isText M0 Prod.snd (F_X12_isText_b51 fu x1 k21 x2 M) := by
  unfold F_X12_isText_b51
  refine Fr.ite ?_ ?_
  · exact Fr.some hm
  · refine Fr.ite Fr.none ?_
    refine Fr.ite ?_ ?_
    · exact fr_X12_isText_b68 fu x1 hk21 _ _ hm
    · exact Fr.some hm
theorem fr_X12_isText_b21 {M0 : xM} (fu : Nat)  (x1 : Int32)  : ∀ (n : Nat) (x2 : Int32) (M : xM), xfr wr_X12_isText M0 M → Fr wr_X12_isText M0 Prod.snd (F_X12_isText_b21 fu x1 n x2 M) := by
  intro n
  induction n with
  | zero =>
    intro x2 M hm
    exact Fr.none
  | succ n ih =>
    intro x2 M hm
    rw [F_X12_isText_b21]
    refine Fr.ite ?_ ?_
    · exact Fr.some hm
    · refine Fr.ite Fr.none ?_
      refine Fr.ite ?_ ?_
      · exact fr_X12_isText_b51 fu x1 ih _ _ hm
      · refine Fr.ite Fr.none ?_
        refine Fr.ite ?_ ?_
        · exact fr_X12_isText_b68 fu x1 ih _ _ hm
        · exact fr_X12_isText_b51 fu x1 ih _ _ hm
theorem fr_X12_isText_b0 {M0 : xM} (fu : Nat)  (x1 : Int32)   (M : xM) (hm : xfr wr_X12_isText M0 M) : Fr wr_X12_isText M0 Prod.snd (F_X12_isText fu x1  M) := by
  unfold F_X12_isText
  refine Fr.ite ?_ ?_
  · exact Fr.some hm
  · refine Fr.ite ?_ ?_
    · exact fr_X12_isText_b21 fu x1  fu _ _ hm
    · exact Fr.some hm
theorem fr_X12_isText (fu : Nat)  (x1 : Int32) (M : xM) : Fr wr_X12_isText M Prod.snd (F_X12_isText fu x1  M) := fr_X12_isText_b0 fu x1  M xfr.rf
theorem fr_X12_isTapeName_b17 {M0 : xM} (fu : Nat)  (x1 : Int32)  : ∀ (n : Nat) (x2 : Int32) (M : xM), xfr wr_X12_isTapeName M0 M → Fr wr_X12_isTapeName M0 Prod.snd (F_X12_isTapeName_b17 fu x1 n x2 M) := by
  intro n
  induction n with
  | zero =>
    intro x2 M hm
    exact Fr.none
  | succ n ih =>
    intro x2 M hm
    rw [F_X12_isTapeName_b17]
    refine Fr.ite ?_ ?_
    · exact Fr.some hm
    · refine Fr.ite Fr.none ?_
      refine Fr.ite Fr.none ?_
      refine Fr.ite ?_ ?_
      · exact ih _ _ hm
      · exact Fr.some hm
theorem fr_X12_isTapeName_b0 {M0 : xM} (fu : Nat)  (x1 : Int32)   (M : xM) (hm : xfr wr_X12_isTapeName M0 M) : Fr wr_X12_isTapeName M0 Prod.snd (F_X12_isTapeName fu x1  M) := by
  unfold F_X12_isTapeName
  refine Fr.ite Fr.none ?_
  refine Fr.ite ?_ ?_
  · exact fr_X12_isTapeName_b17 fu x1  fu _ _ hm
  · exact Fr.some hm
theorem fr_X12_isTapeName (fu : Nat)  (x1 : Int32) (M : xM) : Fr wr_X12_isTapeName M Prod.snd (F_X12_isTapeName fu x1  M) := fr_X12_isTapeName_b0 fu x1  M xfr.rf
theorem fr_X12_known_b52 {M0 : xM} (fu : Nat)    : ∀ (n : Nat) (x1 : Int32) (M : xM), xfr wr_X12_known M0 M → Fr wr_X12_known M0 Prod.snd (F_X12_known_b52 fu n x1 M) := by
  intro n
  induction n with
  | zero =>
    intro x1 M hm
    exact Fr.none
  | succ n ih =>
    intro x1 M hm
    rw [F_X12_known_b52]
    refine Fr.ite ?_ ?_
    · refine Fr.ite Fr.none ?_
      exact Fr.some (by repeat first | exact hm | refine xfr.setf ?_ (by first | decide | exact xin_none (by decide) _))
    · refine Fr.ite Fr.none ?_
      refine Fr.ite Fr.none ?_
      exact ih _ _ (by repeat first | exact hm | refine xfr.setf ?_ (by first | decide | exact xin_none (by decide) _))
theorem fr_X12_known_b26 {M0 : xM} (fu : Nat)    : ∀ (n : Nat) (x1 : Int32) (M : xM), xfr wr_X12_known M0 M → Fr wr_X12_known M0 Prod.snd (F_X12_known_b26 fu n x1 M) := by
  intro n
  induction n with
  | zero =>
    intro x1 M hm
    exact Fr.none
  | succ n ih =>
    intro x1 M hm
    rw [F_X12_known_b26]
    refine Fr.ite ?_ ?_
    · exact fr_X12_known_b52 fu  fu _ _ hm
    · refine Fr.bind (fr_X12_isTapeName fu _ _) (by decide) hm (fun q1 hm => ?_)
      refine Fr.ite ?_ ?_
      · exact ih _ _ hm
      · exact Fr.some hm
theorem fr_X12_known_b0 {M0 : xM} (fu : Nat)     (M : xM) (hm : xfr wr_X12_known M0 M) : Fr wr_X12_known M0 Prod.snd (F_X12_known fu  M) := by
  unfold F_X12_known
  refine Fr.ite ?_ ?_
  · exact Fr.some (by repeat first | exact hm | refine xfr.setf ?_ (by first | decide | exact xin_none (by decide) _))
  · refine Fr.bind (fr_X12_isText fu _ _) (by decide) (by repeat first | exact hm | refine xfr.setf ?_ (by first | decide | exact xin_none (by decide) _)) (fun q1 hm => ?_)
    refine Fr.ite ?_ ?_
    · exact Fr.some (by repeat first | exact hm | refine xfr.setf ?_ (by first | decide | exact xin_none (by decide) _))
    · exact fr_X12_known_b26 fu  fu _ _ (by repeat first | exact hm | refine xfr.setf ?_ (by first | decide | exact xin_none (by decide) _))
theorem fr_X12_known (fu : Nat)   (M : xM) : Fr wr_X12_known M Prod.snd (F_X12_known fu   M) := fr_X12_known_b0 fu  M xfr.rf
theorem fr_X12_read_b41 {M0 : xM} (fu : Nat)  (x1 : Int32) (x2 : Int32)  : ∀ (n : Nat) (x3 : Int32) (x4 : Int32) (M : xM), xfr wr_X12_read M0 M → Fr wr_X12_read M0 Prod.snd (F_X12_read_b41 fu x1 x2 n x3 x4 M) := by
  intro n
  induction n with
  | zero =>
    intro x3 x4 M hm
    exact Fr.none
  | succ n ih =>
    intro x3 x4 M hm
    rw [F_X12_read_b41]
    refine Fr.ite ?_ ?_
    · refine Fr.ite Fr.none ?_
      exact Fr.some (by repeat first | exact hm | refine xfr.setf ?_ (by first | decide | exact xin_none (by decide) _))
    · refine Fr.ite Fr.none ?_
      refine Fr.ite Fr.none ?_
      exact ih _ _ _ (by repeat first | exact hm | refine xfr.setf ?_ (by first | decide | exact xin_none (by decide) _))
theorem fr_X12_read_b0 {M0 : xM} (fu : Nat)  (x1 : Int32) (x2 : Int32)   (M : xM) (hm : xfr wr_X12_read M0 M) : Fr wr_X12_read M0 Prod.snd (F_X12_read fu x1 x2  M) := by
  unfold F_X12_read
  refine Fr.ite ?_ ?_
  · exact Fr.some (by repeat first | exact hm | refine xfr.setf ?_ (by first | decide | exact xin_none (by decide) _))
  · refine Fr.ite ?_ ?_
    · exact Fr.some (by repeat first | exact hm | refine xfr.setf ?_ (by first | decide | exact xin_none (by decide) _))
    · refine Fr.bind (fr_X12_isText fu _ _) (by decide) (by repeat first | exact hm | refine xfr.setf ?_ (by first | decide | exact xin_none (by decide) _)) (fun q1 hm => ?_)
      refine Fr.ite ?_ ?_
      · exact Fr.some (by repeat first | exact hm | refine xfr.setf ?_ (by first | decide | exact xin_none (by decide) _))
      · exact fr_X12_read_b41 fu x1 x2  fu _ _ _ (by repeat first | exact hm | refine xfr.setf ?_ (by first | decide | exact xin_none (by decide) _))
theorem fr_X12_read (fu : Nat)  (x1 : Int32) (x2 : Int32) (M : xM) : Fr wr_X12_read M Prod.snd (F_X12_read fu x1 x2  M) := fr_X12_read_b0 fu x1 x2  M xfr.rf
theorem fr_X12_limit_b0 {M0 : xM}  (x1 : Int32)   (M : xM) (hm : xfr wr_X12_limit M0 M) : Fr wr_X12_limit M0 Prod.snd (F_X12_limit x1  M) := by
  unfold F_X12_limit
  refine Fr.ite ?_ ?_
  · exact Fr.some (by repeat first | exact hm | refine xfr.setf ?_ (by first | decide | exact xin_none (by decide) _))
  · exact Fr.some (by repeat first | exact hm | refine xfr.setf ?_ (by first | decide | exact xin_none (by decide) _))
theorem fr_X12_limit  (x1 : Int32) (M : xM) : Fr wr_X12_limit M Prod.snd (F_X12_limit  x1  M) := fr_X12_limit_b0 x1  M xfr.rf
theorem fr_X12_farOf_b164 {M0 : xM} (fu : Nat)  (x1 : Int32) (x2 : Int32) {k2 : Int32 → xM → Option (Int32 × xM)} (hk2 : ∀ (b0 : Int32) (M : xM), xfr wr_X12_farOf M0 M → Fr wr_X12_farOf M0 Prod.snd (k2 b0 M)) {k15 : Int32 → Int32 → xM → Option (Int32 × xM)} (hk15 : ∀ (b0 : Int32) (b1 : Int32) (M : xM), xfr wr_X12_farOf M0 M → Fr wr_X12_farOf M0 Prod.snd (k15 b0 b1 M)) (x3 : Int32) (x4 : Int32) (x5 : Int32) (M : xM) (hm : xfr wr_X12_farOf M0 M) : Fr wr_X12_farOf M0 Prod.snd (F_X12_farOf_b164 fu x1 x2 k2 k15 x3 x4 x5 M) := by
  unfold F_X12_farOf_b164
  refine Fr.ite Fr.none ?_
  exact hk15 _ _ _ (by repeat first | exact hm | refine xfr.setf ?_ (by first | decide | exact xin_none (by decide) _))
theorem fr_X12_farOf_b121 {M0 : xM} (fu : Nat)  (x1 : Int32) (x2 : Int32) {k2 : Int32 → xM → Option (Int32 × xM)} (hk2 : ∀ (b0 : Int32) (M : xM), xfr wr_X12_farOf M0 M → Fr wr_X12_farOf M0 Prod.snd (k2 b0 M)) {k15 : Int32 → Int32 → xM → Option (Int32 × xM)} (hk15 : ∀ (b0 : Int32) (b1 : Int32) (M : xM), xfr wr_X12_farOf M0 M → Fr wr_X12_farOf M0 Prod.snd (k15 b0 b1 M)) (x3 : Int32) (x4 : Int32) (s0 : Int32) (s1 : Int32) (M : xM) (hm : xfr wr_X12_farOf M0 M) : Fr wr_X12_farOf M0 Prod.snd (F_X12_farOf_b121 fu x1 x2 k2 k15 x3 x4 s0 s1 M) := by
  unfold F_X12_farOf_b121
  refine Fr.ite Fr.none ?_
  refine Fr.ite Fr.none ?_
  exact fr_X12_farOf_b164 fu x1 x2 hk2 hk15 _ _ _ _ hm
theorem fr_X12_farOf_b93 {M0 : xM} (fu : Nat)  (x1 : Int32) (x2 : Int32) {k2 : Int32 → xM → Option (Int32 × xM)} (hk2 : ∀ (b0 : Int32) (M : xM), xfr wr_X12_farOf M0 M → Fr wr_X12_farOf M0 Prod.snd (k2 b0 M)) {k15 : Int32 → Int32 → xM → Option (Int32 × xM)} (hk15 : ∀ (b0 : Int32) (b1 : Int32) (M : xM), xfr wr_X12_farOf M0 M → Fr wr_X12_farOf M0 Prod.snd (k15 b0 b1 M)) (x3 : Int32) (x4 : Int32) (s0 : Int32) (M : xM) (hm : xfr wr_X12_farOf M0 M) : Fr wr_X12_farOf M0 Prod.snd (F_X12_farOf_b93 fu x1 x2 k2 k15 x3 x4 s0 M) := by
  unfold F_X12_farOf_b93
  refine Fr.ite Fr.none ?_
  refine Fr.ite ?_ ?_
  · exact fr_X12_farOf_b121 fu x1 x2 hk2 hk15 _ _ _ _ _ hm
  · exact fr_X12_farOf_b121 fu x1 x2 hk2 hk15 _ _ _ _ _ hm
theorem fr_X12_farOf_b88 {M0 : xM} (fu : Nat)  (x1 : Int32) (x2 : Int32) {k2 : Int32 → xM → Option (Int32 × xM)} (hk2 : ∀ (b0 : Int32) (M : xM), xfr wr_X12_farOf M0 M → Fr wr_X12_farOf M0 Prod.snd (k2 b0 M)) {k15 : Int32 → Int32 → xM → Option (Int32 × xM)} (hk15 : ∀ (b0 : Int32) (b1 : Int32) (M : xM), xfr wr_X12_farOf M0 M → Fr wr_X12_farOf M0 Prod.snd (k15 b0 b1 M)) (x3 : Int32) (x4 : Int32) (M : xM) (hm : xfr wr_X12_farOf M0 M) : Fr wr_X12_farOf M0 Prod.snd (F_X12_farOf_b88 fu x1 x2 k2 k15 x3 x4 M) := by
  unfold F_X12_farOf_b88
  exact fr_X12_farOf_b93 fu x1 x2 hk2 hk15 _ _ _ _ hm
theorem fr_X12_farOf_b36 {M0 : xM} (fu : Nat)  (x1 : Int32) (x2 : Int32) {k2 : Int32 → xM → Option (Int32 × xM)} (hk2 : ∀ (b0 : Int32) (M : xM), xfr wr_X12_farOf M0 M → Fr wr_X12_farOf M0 Prod.snd (k2 b0 M)) {k15 : Int32 → Int32 → xM → Option (Int32 × xM)} (hk15 : ∀ (b0 : Int32) (b1 : Int32) (M : xM), xfr wr_X12_farOf M0 M → Fr wr_X12_farOf M0 Prod.snd (k15 b0 b1 M)) (x3 : Int32) (x4 : Int32) (s0 : Int32) (M : xM) (hm : xfr wr_X12_farOf M0 M) : Fr wr_X12_farOf M0 Prod.snd (F_X12_farOf_b36 fu x1 x2 k2 k15 x3 x4 s0 M) := by
  unfold F_X12_farOf_b36
  refine Fr.ite ?_ ?_
  · exact fr_X12_farOf_b164 fu x1 x2 hk2 hk15 _ _ _ _ hm
  · refine Fr.ite ?_ ?_
    · exact fr_X12_farOf_b164 fu x1 x2 hk2 hk15 _ _ _ _ hm
    · refine Fr.ite Fr.none ?_
      refine Fr.ite ?_ ?_
      · exact fr_X12_farOf_b88 fu x1 x2 hk2 hk15 _ _ _ hm
      · refine Fr.ite Fr.none ?_
        refine Fr.ite ?_ ?_
        · exact fr_X12_farOf_b88 fu x1 x2 hk2 hk15 _ _ _ hm
        · exact fr_X12_farOf_b93 fu x1 x2 hk2 hk15 _ _ _ _ hm
theorem fr_X12_farOf_b15 {M0 : xM} (fu : Nat)  (x1 : Int32) (x2 : Int32) {k2 : Int32 → xM → Option (Int32 × xM)} (hk2 : ∀ (b0 : Int32) (M : xM), xfr wr_X12_farOf M0 M → Fr wr_X12_farOf M0 Prod.snd (k2 b0 M)) : ∀ (n : Nat) (x3 : Int32) (x4 : Int32) (M : xM), xfr wr_X12_farOf M0 M → Fr wr_X12_farOf M0 Prod.snd (F_X12_farOf_b15 fu x1 x2 k2 n x3 x4 M) := by
  intro n
  induction n with
  | zero =>
    intro x3 x4 M hm
    exact Fr.none
  | succ n ih =>
    intro x3 x4 M hm
    rw [F_X12_farOf_b15]
    refine Fr.ite Fr.none ?_
    refine Fr.ite ?_ ?_
    · exact hk2 _ _ hm
    · refine Fr.ite ?_ ?_
      · exact fr_X12_farOf_b36 fu x1 x2 hk2 ih _ _ _ _ hm
      · exact fr_X12_farOf_b36 fu x1 x2 hk2 ih _ _ _ _ hm
theorem fr_X12_farOf_b2 {M0 : xM} (fu : Nat)  (x1 : Int32) (x2 : Int32)  : ∀ (n : Nat) (x3 : Int32) (M : xM), xfr wr_X12_farOf M0 M → Fr wr_X12_farOf M0 Prod.snd (F_X12_farOf_b2 fu x1 x2 n x3 M) := by
  intro n
  induction n with
  | zero =>
    intro x3 M hm
    exact Fr.none
  | succ n ih =>
    intro x3 M hm
    rw [F_X12_farOf_b2]
    refine Fr.ite Fr.none ?_
    refine Fr.ite ?_ ?_
    · refine Fr.ite Fr.none ?_
      refine Fr.ite Fr.none ?_
      refine Fr.ite Fr.none ?_
      exact Fr.some hm
    · exact fr_X12_farOf_b15 fu x1 x2 ih fu _ _ _ hm
theorem fr_X12_farOf_b0 {M0 : xM} (fu : Nat)  (x1 : Int32) (x2 : Int32)   (M : xM) (hm : xfr wr_X12_farOf M0 M) : Fr wr_X12_farOf M0 Prod.snd (F_X12_farOf fu x1 x2  M) := by
  unfold F_X12_farOf
  exact fr_X12_farOf_b2 fu x1 x2  fu _ _ hm
theorem fr_X12_farOf (fu : Nat)  (x1 : Int32) (x2 : Int32) (M : xM) : Fr wr_X12_farOf M Prod.snd (F_X12_farOf fu x1 x2  M) := fr_X12_farOf_b0 fu x1 x2  M xfr.rf
theorem fr_X12_isRead_b0 {M0 : xM}  (x1 : Int32) (x2 : Int32)   (M : xM) (hm : xfr wr_X12_isRead M0 M) : Fr wr_X12_isRead M0 Prod.snd (F_X12_isRead x1 x2  M) := by
  unfold F_X12_isRead
  refine Fr.ite ?_ ?_
  · exact Fr.some hm
  · refine Fr.ite ?_ ?_
    · exact Fr.some hm
    · refine Fr.ite Fr.none ?_
      refine Fr.ite ?_ ?_
      · exact Fr.some hm
      · exact Fr.some hm
theorem fr_X12_isRead  (x1 : Int32) (x2 : Int32) (M : xM) : Fr wr_X12_isRead M Prod.snd (F_X12_isRead  x1 x2  M) := fr_X12_isRead_b0 x1 x2  M xfr.rf
theorem fr_X12_far_b0 {M0 : xM} (fu : Nat)  (x1 : Int32) (x2 : Int32) (x3 : Int32)   (M : xM) (hm : xfr wr_X12_far M0 M) : Fr wr_X12_far M0 Prod.snd (F_X12_far fu x1 x2 x3  M) := by
  unfold F_X12_far
  refine Fr.bind (fr_X12_isRead _ _ _) (by decide) (by repeat first | exact hm | refine xfr.setf ?_ (by first | decide | exact xin_none (by decide) _)) (fun q1 hm => ?_)
  refine Fr.ite ?_ ?_
  · exact Fr.some (by repeat first | exact hm | refine xfr.setf ?_ (by first | decide | exact xin_none (by decide) _))
  · refine Fr.ite ?_ ?_
    · exact Fr.some (by repeat first | exact hm | refine xfr.setf ?_ (by first | decide | exact xin_none (by decide) _))
    · refine Fr.bind (fr_X12_farOf fu _ _ _) (by decide) (by repeat first | exact hm | refine xfr.setf ?_ (by first | decide | exact xin_none (by decide) _)) (fun q2 hm => ?_)
      exact Fr.some (by repeat first | exact hm | refine xfr.setf ?_ (by first | decide | exact xin_none (by decide) _))
theorem fr_X12_far (fu : Nat)  (x1 : Int32) (x2 : Int32) (x3 : Int32) (M : xM) : Fr wr_X12_far M Prod.snd (F_X12_far fu x1 x2 x3  M) := fr_X12_far_b0 fu x1 x2 x3  M xfr.rf
theorem fr_X12_goesOf_b66 {M0 : xM} (fu : Nat)  (x1 : Int32) {k37 : Int32 → Int32 → Int32 → xM → Option (Int32 × xM)} (hk37 : ∀ (b0 : Int32) (b1 : Int32) (b2 : Int32) (M : xM), xfr wr_X12_goesOf M0 M → Fr wr_X12_goesOf M0 Prod.snd (k37 b0 b1 b2 M)) (x2 : Int32) (x4 : Int32) (s0 : Int32) (s1 : Int32) (M : xM) (hm : xfr wr_X12_goesOf M0 M) : Fr wr_X12_goesOf M0 Prod.snd (F_X12_goesOf_b66 fu x1 k37 x2 x4 s0 s1 M) := by
  unfold F_X12_goesOf_b66
  exact hk37 _ _ _ _ hm
theorem fr_X12_goesOf_b37 {M0 : xM} (fu : Nat)  (x1 : Int32)  : ∀ (n : Nat) (x2 : Int32) (x3 : Int32) (x4 : Int32) (M : xM), xfr wr_X12_goesOf M0 M → Fr wr_X12_goesOf M0 Prod.snd (F_X12_goesOf_b37 fu x1 n x2 x3 x4 M) := by
  intro n
  induction n with
  | zero =>
    intro x2 x3 x4 M hm
    exact Fr.none
  | succ n ih =>
    intro x2 x3 x4 M hm
    rw [F_X12_goesOf_b37]
    refine Fr.ite ?_ ?_
    · exact Fr.some hm
    · refine Fr.bind (fr_X12_farOf fu _ _ _) (by decide) hm (fun q1 hm => ?_)
      refine Fr.ite ?_ ?_
      · exact fr_X12_goesOf_b66 fu x1 ih _ _ _ _ _ hm
      · exact fr_X12_goesOf_b66 fu x1 ih _ _ _ _ _ hm
theorem fr_X12_goesOf_b7 {M0 : xM} (fu : Nat)  (x1 : Int32)  : ∀ (n : Nat) (x2 : Int32) (x3 : Int32) (M : xM), xfr wr_X12_goesOf M0 M → Fr wr_X12_goesOf M0 Prod.snd (F_X12_goesOf_b7 fu x1 n x2 x3 M) := by
  intro n
  induction n with
  | zero =>
    intro x2 x3 M hm
    exact Fr.none
  | succ n ih =>
    intro x2 x3 M hm
    rw [F_X12_goesOf_b7]
    refine Fr.ite ?_ ?_
    · exact fr_X12_goesOf_b37 fu x1  fu _ _ _ _ hm
    · refine Fr.bind (fr_X12_farOf fu _ _ _) (by decide) hm (fun q1 hm => ?_)
      exact ih _ _ _ hm
theorem fr_X12_goesOf_b0 {M0 : xM} (fu : Nat)  (x1 : Int32)   (M : xM) (hm : xfr wr_X12_goesOf M0 M) : Fr wr_X12_goesOf M0 Prod.snd (F_X12_goesOf fu x1  M) := by
  unfold F_X12_goesOf
  exact fr_X12_goesOf_b7 fu x1  fu _ _ _ hm
theorem fr_X12_goesOf (fu : Nat)  (x1 : Int32) (M : xM) : Fr wr_X12_goesOf M Prod.snd (F_X12_goesOf fu x1  M) := fr_X12_goesOf_b0 fu x1  M xfr.rf
theorem fr_X12_goes_b0 {M0 : xM} (fu : Nat)  (x1 : Int32) (x2 : Int32)   (M : xM) (hm : xfr wr_X12_goes M0 M) : Fr wr_X12_goes M0 Prod.snd (F_X12_goes fu x1 x2  M) := by
  unfold F_X12_goes
  refine Fr.bind (fr_X12_isRead _ _ _) (by decide) (by repeat first | exact hm | refine xfr.setf ?_ (by first | decide | exact xin_none (by decide) _)) (fun q1 hm => ?_)
  refine Fr.ite ?_ ?_
  · exact Fr.some (by repeat first | exact hm | refine xfr.setf ?_ (by first | decide | exact xin_none (by decide) _))
  · refine Fr.bind (fr_X12_goesOf fu _ _) (by decide) (by repeat first | exact hm | refine xfr.setf ?_ (by first | decide | exact xin_none (by decide) _)) (fun q2 hm => ?_)
    exact Fr.some (by repeat first | exact hm | refine xfr.setf ?_ (by first | decide | exact xin_none (by decide) _))
theorem fr_X12_goes (fu : Nat)  (x1 : Int32) (x2 : Int32) (M : xM) : Fr wr_X12_goes M Prod.snd (F_X12_goes fu x1 x2  M) := fr_X12_goes_b0 fu x1 x2  M xfr.rf
theorem fr_X12_isAnyRead_b2 {M0 : xM} (fu : Nat)  (x1 : Int32)  : ∀ (n : Nat) (x2 : Int32) (M : xM), xfr wr_X12_isAnyRead M0 M → Fr wr_X12_isAnyRead M0 Prod.snd (F_X12_isAnyRead_b2 fu x1 n x2 M) := by
  intro n
  induction n with
  | zero =>
    intro x2 M hm
    exact Fr.none
  | succ n ih =>
    intro x2 M hm
    rw [F_X12_isAnyRead_b2]
    refine Fr.ite ?_ ?_
    · exact Fr.some hm
    · refine Fr.bind (fr_X12_isRead _ _ _) (by decide) hm (fun q1 hm => ?_)
      refine Fr.ite ?_ ?_
      · exact ih _ _ hm
      · exact Fr.some hm
theorem fr_X12_isAnyRead_b0 {M0 : xM} (fu : Nat)  (x1 : Int32)   (M : xM) (hm : xfr wr_X12_isAnyRead M0 M) : Fr wr_X12_isAnyRead M0 Prod.snd (F_X12_isAnyRead fu x1  M) := by
  unfold F_X12_isAnyRead
  exact fr_X12_isAnyRead_b2 fu x1  fu _ _ hm
theorem fr_X12_isAnyRead (fu : Nat)  (x1 : Int32) (M : xM) : Fr wr_X12_isAnyRead M Prod.snd (F_X12_isAnyRead fu x1  M) := fr_X12_isAnyRead_b0 fu x1  M xfr.rf
theorem fr_X12_agreesOn_b58 {M0 : xM} (fu : Nat)  (x1 : Int32) {k4 : Int32 → Int32 → xM → Option (Int32 × xM)} (hk4 : ∀ (b0 : Int32) (b1 : Int32) (M : xM), xfr wr_X12_agreesOn M0 M → Fr wr_X12_agreesOn M0 Prod.snd (k4 b0 b1 M)) (x2 : Int32) (x3 : Int32) (M : xM) (hm : xfr wr_X12_agreesOn M0 M) : Fr wr_X12_agreesOn M0 Prod.snd (F_X12_agreesOn_b58 fu x1 k4 x2 x3 M) := by
  unfold F_X12_agreesOn_b58
  exact hk4 _ _ _ hm
theorem fr_X12_agreesOn_b55 {M0 : xM} (fu : Nat)  (x1 : Int32) {k4 : Int32 → Int32 → xM → Option (Int32 × xM)} (hk4 : ∀ (b0 : Int32) (b1 : Int32) (M : xM), xfr wr_X12_agreesOn M0 M → Fr wr_X12_agreesOn M0 Prod.snd (k4 b0 b1 M)) (x3 : Int32) (x4 : Int32) (M : xM) (hm : xfr wr_X12_agreesOn M0 M) : Fr wr_X12_agreesOn M0 Prod.snd (F_X12_agreesOn_b55 fu x1 k4 x3 x4 M) := by
  unfold F_X12_agreesOn_b55
  exact fr_X12_agreesOn_b58 fu x1 hk4 _ _ _ hm
theorem fr_X12_agreesOn_b4 {M0 : xM} (fu : Nat)  (x1 : Int32)  : ∀ (n : Nat) (x2 : Int32) (x3 : Int32) (M : xM), xfr wr_X12_agreesOn M0 M → Fr wr_X12_agreesOn M0 Prod.snd (F_X12_agreesOn_b4 fu x1 n x2 x3 M) := by
  intro n
  induction n with
  | zero =>
    intro x2 x3 M hm
    exact Fr.none
  | succ n ih =>
    intro x2 x3 M hm
    rw [F_X12_agreesOn_b4]
    refine Fr.ite ?_ ?_
    · refine Fr.ite ?_ ?_
      · exact Fr.some hm
      · exact Fr.some hm
    · refine Fr.bind (fr_X12_isRead _ _ _) (by decide) hm (fun q1 hm => ?_)
      refine Fr.ite ?_ ?_
      · exact fr_X12_agreesOn_b58 fu x1 ih _ _ _ hm
      · refine Fr.bind (fr_X12_goesOf fu _ _) (by decide) hm (fun q2 hm => ?_)
        refine Fr.ite ?_ ?_
        · refine Fr.ite ?_ ?_
          · exact fr_X12_agreesOn_b55 fu x1 ih _ _ _ hm
          · refine Fr.ite ?_ ?_
            · exact fr_X12_agreesOn_b55 fu x1 ih _ _ _ hm
            · exact Fr.some hm
        · exact Fr.some hm
theorem fr_X12_agreesOn_b0 {M0 : xM} (fu : Nat)  (x1 : Int32)   (M : xM) (hm : xfr wr_X12_agreesOn M0 M) : Fr wr_X12_agreesOn M0 Prod.snd (F_X12_agreesOn fu x1  M) := by
  unfold F_X12_agreesOn
  exact fr_X12_agreesOn_b4 fu x1  fu _ _ _ hm
theorem fr_X12_agreesOn (fu : Nat)  (x1 : Int32) (M : xM) : Fr wr_X12_agreesOn M Prod.snd (F_X12_agreesOn fu x1  M) := fr_X12_agreesOn_b0 fu x1  M xfr.rf
theorem fr_X12_agrees_b0 {M0 : xM} (fu : Nat)  (x1 : Int32)   (M : xM) (hm : xfr wr_X12_agrees M0 M) : Fr wr_X12_agrees M0 Prod.snd (F_X12_agrees fu x1  M) := by
  unfold F_X12_agrees
  refine Fr.ite ?_ ?_
  · exact Fr.some (by repeat first | exact hm | refine xfr.setf ?_ (by first | decide | exact xin_none (by decide) _))
  · refine Fr.bind (fr_X12_agreesOn fu _ _) (by decide) (by repeat first | exact hm | refine xfr.setf ?_ (by first | decide | exact xin_none (by decide) _)) (fun q1 hm => ?_)
    exact Fr.some (by repeat first | exact hm | refine xfr.setf ?_ (by first | decide | exact xin_none (by decide) _))
theorem fr_X12_agrees (fu : Nat)  (x1 : Int32) (M : xM) : Fr wr_X12_agrees M Prod.snd (F_X12_agrees fu x1  M) := fr_X12_agrees_b0 fu x1  M xfr.rf
theorem fr_X12_areSame_b19 {M0 : xM} (fu : Nat)  (x1 : Int32) (x2 : Int32)  : ∀ (n : Nat) (x3 : Int32) (M : xM), xfr wr_X12_areSame M0 M → Fr wr_X12_areSame M0 Prod.snd (F_X12_areSame_b19 fu x1 x2 n x3 M) := by
  intro n
  induction n with
  | zero =>
    intro x3 M hm
    exact Fr.none
  | succ n ih =>
    intro x3 M hm
    rw [F_X12_areSame_b19]
    refine Fr.ite Fr.none ?_
    refine Fr.ite ?_ ?_
    · exact Fr.some hm
    · refine Fr.ite Fr.none ?_
      refine Fr.ite Fr.none ?_
      refine Fr.ite ?_ ?_
      · exact ih _ _ hm
      · exact Fr.some hm
theorem fr_X12_areSame_b0 {M0 : xM} (fu : Nat)  (x1 : Int32) (x2 : Int32)   (M : xM) (hm : xfr wr_X12_areSame M0 M) : Fr wr_X12_areSame M0 Prod.snd (F_X12_areSame fu x1 x2  M) := by
  unfold F_X12_areSame
  refine Fr.ite Fr.none ?_
  refine Fr.ite Fr.none ?_
  refine Fr.ite ?_ ?_
  · exact fr_X12_areSame_b19 fu x1 x2  fu _ _ hm
  · exact Fr.some hm
theorem fr_X12_areSame (fu : Nat)  (x1 : Int32) (x2 : Int32) (M : xM) : Fr wr_X12_areSame M Prod.snd (F_X12_areSame fu x1 x2  M) := fr_X12_areSame_b0 fu x1 x2  M xfr.rf
theorem fr_X12_isReadUnlike_b53 {M0 : xM} (fu : Nat)  (x1 : Int32) {k2 : Int32 → xM → Option (Int32 × xM)} (hk2 : ∀ (b0 : Int32) (M : xM), xfr wr_X12_isReadUnlike M0 M → Fr wr_X12_isReadUnlike M0 Prod.snd (k2 b0 M)) {k9 : Int32 → Int32 → xM → Option (Int32 × xM)} (hk9 : ∀ (b0 : Int32) (b1 : Int32) (M : xM), xfr wr_X12_isReadUnlike M0 M → Fr wr_X12_isReadUnlike M0 Prod.snd (k9 b0 b1 M)) (x2 : Int32) (x3 : Int32) (M : xM) (hm : xfr wr_X12_isReadUnlike M0 M) : Fr wr_X12_isReadUnlike M0 Prod.snd (F_X12_isReadUnlike_b53 fu x1 k2 k9 x2 x3 M) := by
  unfold F_X12_isReadUnlike_b53
  exact hk9 _ _ _ hm
theorem fr_X12_isReadUnlike_b9 {M0 : xM} (fu : Nat)  (x1 : Int32) {k2 : Int32 → xM → Option (Int32 × xM)} (hk2 : ∀ (b0 : Int32) (M : xM), xfr wr_X12_isReadUnlike M0 M → Fr wr_X12_isReadUnlike M0 Prod.snd (k2 b0 M)) : ∀ (n : Nat) (x2 : Int32) (x3 : Int32) (M : xM), xfr wr_X12_isReadUnlike M0 M → Fr wr_X12_isReadUnlike M0 Prod.snd (F_X12_isReadUnlike_b9 fu x1 k2 n x2 x3 M) := by
  intro n
  induction n with
  | zero =>
    intro x2 x3 M hm
    exact Fr.none
  | succ n ih =>
    intro x2 x3 M hm
    rw [F_X12_isReadUnlike_b9]
    refine Fr.ite ?_ ?_
    · exact hk2 _ _ hm
    · refine Fr.bind (fr_X12_isRead _ _ _) (by decide) hm (fun q1 hm => ?_)
      refine Fr.ite ?_ ?_
      · exact fr_X12_isReadUnlike_b53 fu x1 hk2 ih _ _ _ hm
      · refine Fr.bind (fr_X12_isRead _ _ _) (by decide) hm (fun q2 hm => ?_)
        refine Fr.ite ?_ ?_
        · exact fr_X12_isReadUnlike_b53 fu x1 hk2 ih _ _ _ hm
        · refine Fr.bind (fr_X12_areSame fu _ _ _) (by decide) hm (fun q3 hm => ?_)
          refine Fr.ite ?_ ?_
          · exact Fr.some hm
          · exact fr_X12_isReadUnlike_b53 fu x1 hk2 ih _ _ _ hm
theorem fr_X12_isReadUnlike_b2 {M0 : xM} (fu : Nat)  (x1 : Int32)  : ∀ (n : Nat) (x2 : Int32) (M : xM), xfr wr_X12_isReadUnlike M0 M → Fr wr_X12_isReadUnlike M0 Prod.snd (F_X12_isReadUnlike_b2 fu x1 n x2 M) := by
  intro n
  induction n with
  | zero =>
    intro x2 M hm
    exact Fr.none
  | succ n ih =>
    intro x2 M hm
    rw [F_X12_isReadUnlike_b2]
    refine Fr.ite ?_ ?_
    · exact Fr.some hm
    · exact fr_X12_isReadUnlike_b9 fu x1 ih fu _ _ _ hm
theorem fr_X12_isReadUnlike_b0 {M0 : xM} (fu : Nat)  (x1 : Int32)   (M : xM) (hm : xfr wr_X12_isReadUnlike M0 M) : Fr wr_X12_isReadUnlike M0 Prod.snd (F_X12_isReadUnlike fu x1  M) := by
  unfold F_X12_isReadUnlike
  exact fr_X12_isReadUnlike_b2 fu x1  fu _ _ hm
theorem fr_X12_isReadUnlike (fu : Nat)  (x1 : Int32) (M : xM) : Fr wr_X12_isReadUnlike M Prod.snd (F_X12_isReadUnlike fu x1  M) := fr_X12_isReadUnlike_b0 fu x1  M xfr.rf
theorem fr_X12_papers_b102 {M0 : xM} (fu : Nat)  (x1 : Int32) {k20 : Int32 → Int32 → xM → Option (Int32 × xM)} (hk20 : ∀ (b0 : Int32) (b1 : Int32) (M : xM), xfr wr_X12_papers M0 M → Fr wr_X12_papers M0 Prod.snd (k20 b0 b1 M)) (x2 : Int32) (x3 : Int32) (M : xM) (hm : xfr wr_X12_papers M0 M) : Fr wr_X12_papers M0 Prod.snd (F_X12_papers_b102 fu x1 k20 x2 x3 M) := by
  unfold F_X12_papers_b102
  exact hk20 _ _ _ hm
theorem fr_X12_papers_b100 {M0 : xM} (fu : Nat)  (x1 : Int32) {k20 : Int32 → Int32 → xM → Option (Int32 × xM)} (hk20 : ∀ (b0 : Int32) (b1 : Int32) (M : xM), xfr wr_X12_papers M0 M → Fr wr_X12_papers M0 Prod.snd (k20 b0 b1 M)) (x3 : Int32) (s0 : Int32) (s1 : Int32) (M : xM) (hm : xfr wr_X12_papers M0 M) : Fr wr_X12_papers M0 Prod.snd (F_X12_papers_b100 fu x1 k20 x3 s0 s1 M) := by
  unfold F_X12_papers_b100
  exact fr_X12_papers_b102 fu x1 hk20 _ _ _ hm
theorem fr_X12_papers_b95 {M0 : xM} (fu : Nat)  (x1 : Int32) {k20 : Int32 → Int32 → xM → Option (Int32 × xM)} (hk20 : ∀ (b0 : Int32) (b1 : Int32) (M : xM), xfr wr_X12_papers M0 M → Fr wr_X12_papers M0 Prod.snd (k20 b0 b1 M)) (x3 : Int32) (s0 : Int32) (M : xM) (hm : xfr wr_X12_papers M0 M) : Fr wr_X12_papers M0 Prod.snd (F_X12_papers_b95 fu x1 k20 x3 s0 M) := by
  unfold F_X12_papers_b95
  exact fr_X12_papers_b100 fu x1 hk20 _ _ _ _ hm
theorem fr_X12_papers_b99 {M0 : xM} (fu : Nat)  (x1 : Int32) {k20 : Int32 → Int32 → xM → Option (Int32 × xM)} (hk20 : ∀ (b0 : Int32) (b1 : Int32) (M : xM), xfr wr_X12_papers M0 M → Fr wr_X12_papers M0 Prod.snd (k20 b0 b1 M)) (x3 : Int32) (s0 : Int32) (M : xM) (hm : xfr wr_X12_papers M0 M) : Fr wr_X12_papers M0 Prod.snd (F_X12_papers_b99 fu x1 k20 x3 s0 M) := by
  unfold F_X12_papers_b99
  exact fr_X12_papers_b100 fu x1 hk20 _ _ _ _ hm
theorem fr_X12_papers_b51 {M0 : xM} (fu : Nat)  (x1 : Int32) {k20 : Int32 → Int32 → xM → Option (Int32 × xM)} (hk20 : ∀ (b0 : Int32) (b1 : Int32) (M : xM), xfr wr_X12_papers M0 M → Fr wr_X12_papers M0 Prod.snd (k20 b0 b1 M)) (x2 : Int32) (x3 : Int32) (s0 : Int32) (M : xM) (hm : xfr wr_X12_papers M0 M) : Fr wr_X12_papers M0 Prod.snd (F_X12_papers_b51 fu x1 k20 x2 x3 s0 M) := by
  unfold F_X12_papers_b51
  refine Fr.ite ?_ ?_
  · exact fr_X12_papers_b95 fu x1 hk20 _ _ _ hm
  · refine Fr.ite ?_ ?_
    · refine Fr.ite ?_ ?_
      · exact fr_X12_papers_b99 fu x1 hk20 _ _ _ hm
      · exact fr_X12_papers_b95 fu x1 hk20 _ _ _ hm
    · refine Fr.ite ?_ ?_
      · refine Fr.ite ?_ ?_
        · exact fr_X12_papers_b95 fu x1 hk20 _ _ _ hm
        · exact fr_X12_papers_b99 fu x1 hk20 _ _ _ hm
      · refine Fr.bind (fr_X12_isReadUnlike fu _ _) (by decide) hm (fun q1 hm => ?_)
        refine Fr.ite ?_ ?_
        · exact fr_X12_papers_b99 fu x1 hk20 _ _ _ hm
        · exact fr_X12_papers_b95 fu x1 hk20 _ _ _ hm
theorem fr_X12_papers_b20 {M0 : xM} (fu : Nat)  (x1 : Int32)  : ∀ (n : Nat) (x2 : Int32) (x3 : Int32) (M : xM), xfr wr_X12_papers M0 M → Fr wr_X12_papers M0 Prod.snd (F_X12_papers_b20 fu x1 n x2 x3 M) := by
  intro n
  induction n with
  | zero =>
    intro x2 x3 M hm
    exact Fr.none
  | succ n ih =>
    intro x2 x3 M hm
    rw [F_X12_papers_b20]
    refine Fr.ite ?_ ?_
    · exact Fr.some hm
    · refine Fr.bind (fr_X12_isAnyRead fu _ _) (by decide) hm (fun q1 hm => ?_)
      refine Fr.ite ?_ ?_
      · exact fr_X12_papers_b102 fu x1 ih _ _ _ hm
      · refine Fr.bind (fr_X12_agreesOn fu _ _) (by decide) hm (fun q2 hm => ?_)
        refine Fr.ite ?_ ?_
        · exact fr_X12_papers_b51 fu x1 ih _ _ _ _ hm
        · exact fr_X12_papers_b51 fu x1 ih _ _ _ _ hm
theorem fr_X12_papers_b0 {M0 : xM} (fu : Nat)  (x1 : Int32)   (M : xM) (hm : xfr wr_X12_papers M0 M) : Fr wr_X12_papers M0 Prod.snd (F_X12_papers fu x1  M) := by
  unfold F_X12_papers
  refine Fr.ite ?_ ?_
  · exact Fr.some (by repeat first | exact hm | refine xfr.setf ?_ (by first | decide | exact xin_none (by decide) _))
  · exact fr_X12_papers_b20 fu x1  fu _ _ _ (by repeat first | exact hm | refine xfr.setf ?_ (by first | decide | exact xin_none (by decide) _))
theorem fr_X12_papers (fu : Nat)  (x1 : Int32) (M : xM) : Fr wr_X12_papers M Prod.snd (F_X12_papers fu x1  M) := fr_X12_papers_b0 fu x1  M xfr.rf
theorem fr_X12_written_b69 {M0 : xM} (fu : Nat)  (x1 : Int32) (x2 : Int32) {k5 : Int32 → Int32 → xM → Option (Int32 × xM)} (hk5 : ∀ (b0 : Int32) (b1 : Int32) (M : xM), xfr wr_X12_written M0 M → Fr wr_X12_written M0 Prod.snd (k5 b0 b1 M)) {k18 : Int32 → Int32 → Int32 → Int32 → xM → Option (Int32 × xM)} (hk18 : ∀ (b0 : Int32) (b1 : Int32) (b2 : Int32) (b3 : Int32) (M : xM), xfr wr_X12_written M0 M → Fr wr_X12_written M0 Prod.snd (k18 b0 b1 b2 b3 M)) (x3 : Int32) (x4 : Int32) (x6 : Int32) (s0 : Int32) (M : xM) (hm : xfr wr_X12_written M0 M) : Fr wr_X12_written M0 Prod.snd (F_X12_written_b69 fu x1 x2 k5 k18 x3 x4 x6 s0 M) := by
  unfold F_X12_written_b69
  exact hk18 _ _ _ _ _ hm
theorem fr_X12_written_b64 {M0 : xM} (fu : Nat)  (x1 : Int32) (x2 : Int32) {k5 : Int32 → Int32 → xM → Option (Int32 × xM)} (hk5 : ∀ (b0 : Int32) (b1 : Int32) (M : xM), xfr wr_X12_written M0 M → Fr wr_X12_written M0 Prod.snd (k5 b0 b1 M)) {k18 : Int32 → Int32 → Int32 → Int32 → xM → Option (Int32 × xM)} (hk18 : ∀ (b0 : Int32) (b1 : Int32) (b2 : Int32) (b3 : Int32) (M : xM), xfr wr_X12_written M0 M → Fr wr_X12_written M0 Prod.snd (k18 b0 b1 b2 b3 M)) (x3 : Int32) (x4 : Int32) (x6 : Int32) (M : xM) (hm : xfr wr_X12_written M0 M) : Fr wr_X12_written M0 Prod.snd (F_X12_written_b64 fu x1 x2 k5 k18 x3 x4 x6 M) := by
  unfold F_X12_written_b64
  exact fr_X12_written_b69 fu x1 x2 hk5 hk18 _ _ _ _ _ hm
theorem fr_X12_written_b68 {M0 : xM} (fu : Nat)  (x1 : Int32) (x2 : Int32) {k5 : Int32 → Int32 → xM → Option (Int32 × xM)} (hk5 : ∀ (b0 : Int32) (b1 : Int32) (M : xM), xfr wr_X12_written M0 M → Fr wr_X12_written M0 Prod.snd (k5 b0 b1 M)) {k18 : Int32 → Int32 → Int32 → Int32 → xM → Option (Int32 × xM)} (hk18 : ∀ (b0 : Int32) (b1 : Int32) (b2 : Int32) (b3 : Int32) (M : xM), xfr wr_X12_written M0 M → Fr wr_X12_written M0 Prod.snd (k18 b0 b1 b2 b3 M)) (x3 : Int32) (x4 : Int32) (x6 : Int32) (M : xM) (hm : xfr wr_X12_written M0 M) : Fr wr_X12_written M0 Prod.snd (F_X12_written_b68 fu x1 x2 k5 k18 x3 x4 x6 M) := by
  unfold F_X12_written_b68
  exact fr_X12_written_b69 fu x1 x2 hk5 hk18 _ _ _ _ _ hm
theorem fr_X12_written_b105 {M0 : xM} (fu : Nat)  (x1 : Int32) (x2 : Int32) {k5 : Int32 → Int32 → xM → Option (Int32 × xM)} (hk5 : ∀ (b0 : Int32) (b1 : Int32) (M : xM), xfr wr_X12_written M0 M → Fr wr_X12_written M0 Prod.snd (k5 b0 b1 M)) (x4 : Int32) (s0 : Int32) (s1 : Int32) (M : xM) (hm : xfr wr_X12_written M0 M) : Fr wr_X12_written M0 Prod.snd (F_X12_written_b105 fu x1 x2 k5 x4 s0 s1 M) := by
  unfold F_X12_written_b105
  exact hk5 _ _ _ hm
theorem fr_X12_written_b100 {M0 : xM} (fu : Nat)  (x1 : Int32) (x2 : Int32) {k5 : Int32 → Int32 → xM → Option (Int32 × xM)} (hk5 : ∀ (b0 : Int32) (b1 : Int32) (M : xM), xfr wr_X12_written M0 M → Fr wr_X12_written M0 Prod.snd (k5 b0 b1 M)) (x4 : Int32) (s0 : Int32) (M : xM) (hm : xfr wr_X12_written M0 M) : Fr wr_X12_written M0 Prod.snd (F_X12_written_b100 fu x1 x2 k5 x4 s0 M) := by
  unfold F_X12_written_b100
  exact fr_X12_written_b105 fu x1 x2 hk5 _ _ _ _ hm
theorem fr_X12_written_b104 {M0 : xM} (fu : Nat)  (x1 : Int32) (x2 : Int32) {k5 : Int32 → Int32 → xM → Option (Int32 × xM)} (hk5 : ∀ (b0 : Int32) (b1 : Int32) (M : xM), xfr wr_X12_written M0 M → Fr wr_X12_written M0 Prod.snd (k5 b0 b1 M)) (x4 : Int32) (s0 : Int32) (M : xM) (hm : xfr wr_X12_written M0 M) : Fr wr_X12_written M0 Prod.snd (F_X12_written_b104 fu x1 x2 k5 x4 s0 M) := by
  unfold F_X12_written_b104
  exact fr_X12_written_b105 fu x1 x2 hk5 _ _ _ _ hm
theorem fr_X12_written_b77 {M0 : xM} (fu : Nat)  (x1 : Int32) (x2 : Int32) {k5 : Int32 → Int32 → xM → Option (Int32 × xM)} (hk5 : ∀ (b0 : Int32) (b1 : Int32) (M : xM), xfr wr_X12_written M0 M → Fr wr_X12_written M0 Prod.snd (k5 b0 b1 M)) (x3 : Int32) (x4 : Int32) (x5 : Int32) (M : xM) (hm : xfr wr_X12_written M0 M) : Fr wr_X12_written M0 Prod.snd (F_X12_written_b77 fu x1 x2 k5 x3 x4 x5 M) := by
  unfold F_X12_written_b77
  refine Fr.ite ?_ ?_
  · refine Fr.bind (fr_X12_agreesOn fu _ _) (by decide) hm (fun q1 hm => ?_)
    refine Fr.ite ?_ ?_
    · exact fr_X12_written_b100 fu x1 x2 hk5 _ _ _ hm
    · exact fr_X12_written_b104 fu x1 x2 hk5 _ _ _ hm
  · refine Fr.ite ?_ ?_
    · exact fr_X12_written_b104 fu x1 x2 hk5 _ _ _ hm
    · exact fr_X12_written_b100 fu x1 x2 hk5 _ _ _ hm
theorem fr_X12_written_b18 {M0 : xM} (fu : Nat)  (x1 : Int32) (x2 : Int32) {k5 : Int32 → Int32 → xM → Option (Int32 × xM)} (hk5 : ∀ (b0 : Int32) (b1 : Int32) (M : xM), xfr wr_X12_written M0 M → Fr wr_X12_written M0 Prod.snd (k5 b0 b1 M)) : ∀ (n : Nat) (x3 : Int32) (x4 : Int32) (x5 : Int32) (x6 : Int32) (M : xM), xfr wr_X12_written M0 M → Fr wr_X12_written M0 Prod.snd (F_X12_written_b18 fu x1 x2 k5 n x3 x4 x5 x6 M) := by
  intro n
  induction n with
  | zero =>
    intro x3 x4 x5 x6 M hm
    exact Fr.none
  | succ n ih =>
    intro x3 x4 x5 x6 M hm
    rw [F_X12_written_b18]
    refine Fr.ite ?_ ?_
    · exact fr_X12_written_b77 fu x1 x2 hk5 _ _ _ _ hm
    · refine Fr.ite ?_ ?_
      · refine Fr.ite ?_ ?_
        · refine Fr.bind (fr_X12_isRead _ _ _) (by decide) hm (fun q1 hm => ?_)
          refine Fr.ite ?_ ?_
          · exact fr_X12_written_b68 fu x1 x2 hk5 ih _ _ _ _ hm
          · refine Fr.bind (fr_X12_goesOf fu _ _) (by decide) hm (fun q2 hm => ?_)
            refine Fr.ite ?_ ?_
            · exact fr_X12_written_b68 fu x1 x2 hk5 ih _ _ _ _ hm
            · exact fr_X12_written_b64 fu x1 x2 hk5 ih _ _ _ _ hm
        · exact fr_X12_written_b64 fu x1 x2 hk5 ih _ _ _ _ hm
      · exact fr_X12_written_b77 fu x1 x2 hk5 _ _ _ _ hm
theorem fr_X12_written_b5 {M0 : xM} (fu : Nat)  (x1 : Int32) (x2 : Int32)  : ∀ (n : Nat) (x3 : Int32) (x4 : Int32) (M : xM), xfr wr_X12_written M0 M → Fr wr_X12_written M0 Prod.snd (F_X12_written_b5 fu x1 x2 n x3 x4 M) := by
  intro n
  induction n with
  | zero =>
    intro x3 x4 M hm
    exact Fr.none
  | succ n ih =>
    intro x3 x4 M hm
    rw [F_X12_written_b5]
    refine Fr.ite ?_ ?_
    · exact Fr.some hm
    · exact fr_X12_written_b18 fu x1 x2 ih fu _ _ _ _ _ hm
theorem fr_X12_written_b0 {M0 : xM} (fu : Nat)  (x1 : Int32) (x2 : Int32)   (M : xM) (hm : xfr wr_X12_written M0 M) : Fr wr_X12_written M0 Prod.snd (F_X12_written fu x1 x2  M) := by
  unfold F_X12_written
  exact fr_X12_written_b5 fu x1 x2  fu _ _ _ hm
theorem fr_X12_written (fu : Nat)  (x1 : Int32) (x2 : Int32) (M : xM) : Fr wr_X12_written M Prod.snd (F_X12_written fu x1 x2  M) := fr_X12_written_b0 fu x1 x2  M xfr.rf
theorem fr_X12_writtenFor_b0 {M0 : xM} (fu : Nat)  (x1 : Int32) (x2 : Int32)   (M : xM) (hm : xfr wr_X12_writtenFor M0 M) : Fr wr_X12_writtenFor M0 Prod.snd (F_X12_writtenFor fu x1 x2  M) := by
  unfold F_X12_writtenFor
  refine Fr.ite ?_ ?_
  · exact Fr.some (by repeat first | exact hm | refine xfr.setf ?_ (by first | decide | exact xin_none (by decide) _))
  · refine Fr.ite ?_ ?_
    · exact Fr.some (by repeat first | exact hm | refine xfr.setf ?_ (by first | decide | exact xin_none (by decide) _))
    · refine Fr.bind (fr_X12_written fu _ _ _) (by decide) (by repeat first | exact hm | refine xfr.setf ?_ (by first | decide | exact xin_none (by decide) _)) (fun q1 hm => ?_)
      exact Fr.some (by repeat first | exact hm | refine xfr.setf ?_ (by first | decide | exact xin_none (by decide) _))
theorem fr_X12_writtenFor (fu : Nat)  (x1 : Int32) (x2 : Int32) (M : xM) : Fr wr_X12_writtenFor M Prod.snd (F_X12_writtenFor fu x1 x2  M) := fr_X12_writtenFor_b0 fu x1 x2  M xfr.rf
theorem fr_X12_elected_b56 {M0 : xM} (fu : Nat)   {k7 : Int32 → xM → Option (Int32 × xM)} (hk7 : ∀ (b0 : Int32) (M : xM), xfr wr_X12_elected M0 M → Fr wr_X12_elected M0 Prod.snd (k7 b0 M)) {k19 : Int32 → Int32 → Int32 → xM → Option (Int32 × xM)} (hk19 : ∀ (b0 : Int32) (b1 : Int32) (b2 : Int32) (M : xM), xfr wr_X12_elected M0 M → Fr wr_X12_elected M0 Prod.snd (k19 b0 b1 b2 M)) (x1 : Int32) (x3 : Int32) (s0 : Int32) (M : xM) (hm : xfr wr_X12_elected M0 M) : Fr wr_X12_elected M0 Prod.snd (F_X12_elected_b56 fu k7 k19 x1 x3 s0 M) := by
  unfold F_X12_elected_b56
  exact hk19 _ _ _ _ hm
theorem fr_X12_elected_b51 {M0 : xM} (fu : Nat)   {k7 : Int32 → xM → Option (Int32 × xM)} (hk7 : ∀ (b0 : Int32) (M : xM), xfr wr_X12_elected M0 M → Fr wr_X12_elected M0 Prod.snd (k7 b0 M)) {k19 : Int32 → Int32 → Int32 → xM → Option (Int32 × xM)} (hk19 : ∀ (b0 : Int32) (b1 : Int32) (b2 : Int32) (M : xM), xfr wr_X12_elected M0 M → Fr wr_X12_elected M0 Prod.snd (k19 b0 b1 b2 M)) (x1 : Int32) (x3 : Int32) (M : xM) (hm : xfr wr_X12_elected M0 M) : Fr wr_X12_elected M0 Prod.snd (F_X12_elected_b51 fu k7 k19 x1 x3 M) := by
  unfold F_X12_elected_b51
  exact fr_X12_elected_b56 fu hk7 hk19 _ _ _ _ hm
theorem fr_X12_elected_b55 {M0 : xM} (fu : Nat)   {k7 : Int32 → xM → Option (Int32 × xM)} (hk7 : ∀ (b0 : Int32) (M : xM), xfr wr_X12_elected M0 M → Fr wr_X12_elected M0 Prod.snd (k7 b0 M)) {k19 : Int32 → Int32 → Int32 → xM → Option (Int32 × xM)} (hk19 : ∀ (b0 : Int32) (b1 : Int32) (b2 : Int32) (M : xM), xfr wr_X12_elected M0 M → Fr wr_X12_elected M0 Prod.snd (k19 b0 b1 b2 M)) (x1 : Int32) (x3 : Int32) (M : xM) (hm : xfr wr_X12_elected M0 M) : Fr wr_X12_elected M0 Prod.snd (F_X12_elected_b55 fu k7 k19 x1 x3 M) := by
  unfold F_X12_elected_b55
  exact fr_X12_elected_b56 fu hk7 hk19 _ _ _ _ hm
theorem fr_X12_elected_b19 {M0 : xM} (fu : Nat)   {k7 : Int32 → xM → Option (Int32 × xM)} (hk7 : ∀ (b0 : Int32) (M : xM), xfr wr_X12_elected M0 M → Fr wr_X12_elected M0 Prod.snd (k7 b0 M)) : ∀ (n : Nat) (x1 : Int32) (x2 : Int32) (x3 : Int32) (M : xM), xfr wr_X12_elected M0 M → Fr wr_X12_elected M0 Prod.snd (F_X12_elected_b19 fu k7 n x1 x2 x3 M) := by
  intro n
  induction n with
  | zero =>
    intro x1 x2 x3 M hm
    exact Fr.none
  | succ n ih =>
    intro x1 x2 x3 M hm
    rw [F_X12_elected_b19]
    refine Fr.ite ?_ ?_
    · refine Fr.ite ?_ ?_
      · exact hk7 _ _ hm
      · exact Fr.some hm
    · refine Fr.ite ?_ ?_
      · exact fr_X12_elected_b55 fu hk7 ih _ _ _ hm
      · refine Fr.ite ?_ ?_
        · exact fr_X12_elected_b51 fu hk7 ih _ _ _ hm
        · refine Fr.bind (fr_X12_written fu _ _ _) (by decide) hm (fun q1 hm => ?_)
          refine Fr.bind (fr_X12_written fu _ _ _) (by decide) hm (fun q2 hm => ?_)
          refine Fr.ite ?_ ?_
          · exact fr_X12_elected_b55 fu hk7 ih _ _ _ hm
          · exact fr_X12_elected_b51 fu hk7 ih _ _ _ hm
theorem fr_X12_elected_b7 {M0 : xM} (fu : Nat)    : ∀ (n : Nat) (x1 : Int32) (M : xM), xfr wr_X12_elected M0 M → Fr wr_X12_elected M0 Prod.snd (F_X12_elected_b7 fu n x1 M) := by
  intro n
  induction n with
  | zero =>
    intro x1 M hm
    exact Fr.none
  | succ n ih =>
    intro x1 M hm
    rw [F_X12_elected_b7]
    refine Fr.ite ?_ ?_
    · exact Fr.some hm
    · exact fr_X12_elected_b19 fu ih fu _ _ _ _ hm
theorem fr_X12_elected_b0 {M0 : xM} (fu : Nat)     (M : xM) (hm : xfr wr_X12_elected M0 M) : Fr wr_X12_elected M0 Prod.snd (F_X12_elected fu  M) := by
  unfold F_X12_elected
  exact fr_X12_elected_b7 fu  fu _ _ (by repeat first | exact hm | refine xfr.setf ?_ (by first | decide | exact xin_none (by decide) _))
theorem fr_X12_elected (fu : Nat)   (M : xM) : Fr wr_X12_elected M Prod.snd (F_X12_elected fu   M) := fr_X12_elected_b0 fu  M xfr.rf
theorem fr_X12_absent_b0 {M0 : xM}  (x1 : Int32) (x2 : Int32) (x3 : Int32)   (M : xM) (hm : xfr wr_X12_absent M0 M) : Fr wr_X12_absent M0 Prod.snd (F_X12_absent x1 x2 x3  M) := by
  unfold F_X12_absent
  refine Fr.ite ?_ ?_
  · exact Fr.some (by repeat first | exact hm | refine xfr.setf ?_ (by first | decide | exact xin_none (by decide) _))
  · refine Fr.ite ?_ ?_
    · exact Fr.some (by repeat first | exact hm | refine xfr.setf ?_ (by first | decide | exact xin_none (by decide) _))
    · refine Fr.ite ?_ ?_
      · exact Fr.some (by repeat first | exact hm | refine xfr.setf ?_ (by first | decide | exact xin_none (by decide) _))
      · refine Fr.ite Fr.none ?_
        refine Fr.ite Fr.none ?_
        exact Fr.some (by repeat first | exact hm | refine xfr.setf ?_ (by first | decide | exact xin_none (by decide) _))
theorem fr_X12_absent  (x1 : Int32) (x2 : Int32) (x3 : Int32) (M : xM) : Fr wr_X12_absent M Prod.snd (F_X12_absent  x1 x2 x3  M) := fr_X12_absent_b0 x1 x2 x3  M xfr.rf
theorem fr_X12_joinedAhead_b0 {M0 : xM} (fu : Nat)  (x1 : Int32) (x2 : Int32)   (M : xM) (hm : xfr wr_X12_joinedAhead M0 M) : Fr wr_X12_joinedAhead M0 Prod.snd (F_X12_joinedAhead fu x1 x2  M) := by
  unfold F_X12_joinedAhead
  refine Fr.bind (fr_X12_ahead fu _ _ _) (by decide) hm (fun q1 hm => ?_)
  refine Fr.ite ?_ ?_
  · exact Fr.some hm
  · refine Fr.ite Fr.none ?_
    refine Fr.ite Fr.none ?_
    exact Fr.some hm
theorem fr_X12_joinedAhead (fu : Nat)  (x1 : Int32) (x2 : Int32) (M : xM) : Fr wr_X12_joinedAhead M Prod.snd (F_X12_joinedAhead fu x1 x2  M) := fr_X12_joinedAhead_b0 fu x1 x2  M xfr.rf
theorem fr_X12_event_b112 {M0 : xM}  (x1 : Int32) (x2 : Int32) (x3 : Int32) (x4 : Int32)  (x5 : Int32) (M : xM) (hm : xfr wr_X12_event M0 M) : Fr wr_X12_event M0 Prod.snd (F_X12_event_b112 x1 x2 x3 x4 x5 M) := by
  unfold F_X12_event_b112
  refine Fr.ite Fr.none ?_
  refine Fr.ite Fr.none ?_
  refine Fr.ite Fr.none ?_
  refine Fr.ite Fr.none ?_
  refine Fr.ite Fr.none ?_
  refine Fr.ite Fr.none ?_
  exact Fr.some (by repeat first | exact hm | refine xfr.setf ?_ (by first | decide | exact xin_none (by decide) _))
theorem fr_X12_event_b75 {M0 : xM}  (x1 : Int32) (x2 : Int32) (x3 : Int32) (x4 : Int32)   (M : xM) (hm : xfr wr_X12_event M0 M) : Fr wr_X12_event M0 Prod.snd (F_X12_event_b75 x1 x2 x3 x4  M) := by
  unfold F_X12_event_b75
  refine Fr.ite Fr.none ?_
  refine Fr.ite Fr.none ?_
  refine Fr.ite ?_ ?_
  · exact fr_X12_event_b112 x1 x2 x3 x4  _ _ hm
  · refine Fr.ite Fr.none ?_
    refine Fr.ite ?_ ?_
    · exact fr_X12_event_b112 x1 x2 x3 x4  _ _ hm
    · exact Fr.some hm
theorem fr_X12_event_b67 {M0 : xM}  (x1 : Int32) (x2 : Int32) (x3 : Int32) (x4 : Int32)  (s0 : Int32) (s1 : Int32) (s2 : Int32) (M : xM) (hm : xfr wr_X12_event M0 M) : Fr wr_X12_event M0 Prod.snd (F_X12_event_b67 x1 x2 x3 x4 s0 s1 s2 M) := by
  unfold F_X12_event_b67
  refine Fr.ite ?_ ?_
  · exact Fr.some hm
  · exact fr_X12_event_b75 x1 x2 x3 x4   _ hm
theorem fr_X12_event_b0 {M0 : xM}  (x1 : Int32) (x2 : Int32) (x3 : Int32) (x4 : Int32)   (M : xM) (hm : xfr wr_X12_event M0 M) : Fr wr_X12_event M0 Prod.snd (F_X12_event x1 x2 x3 x4  M) := by
  unfold F_X12_event
  refine Fr.ite ?_ ?_
  · exact Fr.some (by repeat first | exact hm | refine xfr.setf ?_ (by first | decide | exact xin_none (by decide) _))
  · refine Fr.ite Fr.none ?_
    refine Fr.ite ?_ ?_
    · exact Fr.some (by repeat first | exact hm | refine xfr.setf ?_ (by first | decide | exact xin_none (by decide) _))
    · refine Fr.ite ?_ ?_
      · exact Fr.some (by repeat first | exact hm | refine xfr.setf ?_ (by first | decide | exact xin_none (by decide) _))
      · refine Fr.ite ?_ ?_
        · exact Fr.some (by repeat first | exact hm | refine xfr.setf ?_ (by first | decide | exact xin_none (by decide) _))
        · refine Fr.ite ?_ ?_
          · exact fr_X12_event_b75 x1 x2 x3 x4   _ (by repeat first | exact hm | refine xfr.setf ?_ (by first | decide | exact xin_none (by decide) _))
          · refine Fr.ite ?_ ?_
            · exact fr_X12_event_b67 x1 x2 x3 x4  _ _ _ _ (by repeat first | exact hm | refine xfr.setf ?_ (by first | decide | exact xin_none (by decide) _))
            · exact fr_X12_event_b67 x1 x2 x3 x4  _ _ _ _ (by repeat first | exact hm | refine xfr.setf ?_ (by first | decide | exact xin_none (by decide) _))
theorem fr_X12_event  (x1 : Int32) (x2 : Int32) (x3 : Int32) (x4 : Int32) (M : xM) : Fr wr_X12_event M Prod.snd (F_X12_event  x1 x2 x3 x4  M) := fr_X12_event_b0 x1 x2 x3 x4  M xfr.rf
theorem fr_X12_goSeals_b219 {M0 : xM} (fu : Nat)  (x1 : Int32) {k15 : Int32 → Int32 → Int32 → Int32 → xM → Option (xM)} (hk15 : ∀ (b0 : Int32) (b1 : Int32) (b2 : Int32) (b3 : Int32) (M : xM), xfr wr_X12_goSeals M0 M → Fr wr_X12_goSeals M0 id (k15 b0 b1 b2 b3 M)) (x2 : Int32) (x3 : Int32) (x4 : Int32) (x5 : Int32) (M : xM) (hm : xfr wr_X12_goSeals M0 M) : Fr wr_X12_goSeals M0 id (F_X12_goSeals_b219 fu x1 k15 x2 x3 x4 x5 M) := by
  unfold F_X12_goSeals_b219
  exact hk15 _ _ _ _ _ hm
theorem fr_X12_goSeals_b199 {M0 : xM} (fu : Nat)  (x1 : Int32) {k15 : Int32 → Int32 → Int32 → Int32 → xM → Option (xM)} (hk15 : ∀ (b0 : Int32) (b1 : Int32) (b2 : Int32) (b3 : Int32) (M : xM), xfr wr_X12_goSeals M0 M → Fr wr_X12_goSeals M0 id (k15 b0 b1 b2 b3 M)) (x2 : Int32) (x3 : Int32) (x4 : Int32) (x5 : Int32) (x6 : Int32) (M : xM) (hm : xfr wr_X12_goSeals M0 M) : Fr wr_X12_goSeals M0 id (F_X12_goSeals_b199 fu x1 k15 x2 x3 x4 x5 x6 M) := by
  unfold F_X12_goSeals_b199
  refine Fr.ite Fr.none ?_
  refine Fr.ite ?_ ?_
  · refine Fr.ite Fr.none ?_
    exact fr_X12_goSeals_b219 fu x1 hk15 _ _ _ _ _ hm
  · exact fr_X12_goSeals_b219 fu x1 hk15 _ _ _ _ _ hm
theorem fr_X12_goSeals_b197 {M0 : xM} (fu : Nat)  (x1 : Int32) {k15 : Int32 → Int32 → Int32 → Int32 → xM → Option (xM)} (hk15 : ∀ (b0 : Int32) (b1 : Int32) (b2 : Int32) (b3 : Int32) (M : xM), xfr wr_X12_goSeals M0 M → Fr wr_X12_goSeals M0 id (k15 b0 b1 b2 b3 M)) (x3 : Int32) (x4 : Int32) (x5 : Int32) (x6 : Int32) (M : xM) (hm : xfr wr_X12_goSeals M0 M) : Fr wr_X12_goSeals M0 id (F_X12_goSeals_b197 fu x1 k15 x3 x4 x5 x6 M) := by
  unfold F_X12_goSeals_b197
  exact fr_X12_goSeals_b199 fu x1 hk15 _ _ _ _ _ _ hm
theorem fr_X12_goSeals_b181 {M0 : xM} (fu : Nat)  (x1 : Int32) {k15 : Int32 → Int32 → Int32 → Int32 → xM → Option (xM)} (hk15 : ∀ (b0 : Int32) (b1 : Int32) (b2 : Int32) (b3 : Int32) (M : xM), xfr wr_X12_goSeals M0 M → Fr wr_X12_goSeals M0 id (k15 b0 b1 b2 b3 M)) (x2 : Int32) (x3 : Int32) (x4 : Int32) (x5 : Int32) (x6 : Int32) (x7 : Int32) (M : xM) (hm : xfr wr_X12_goSeals M0 M) : Fr wr_X12_goSeals M0 id (F_X12_goSeals_b181 fu x1 k15 x2 x3 x4 x5 x6 x7 M) := by
  unfold F_X12_goSeals_b181
  refine Fr.ite ?_ ?_
  · refine Fr.ite Fr.none ?_
    refine Fr.ite ?_ ?_
    · exact fr_X12_goSeals_b197 fu x1 hk15 _ _ _ _ _ hm
    · exact fr_X12_goSeals_b199 fu x1 hk15 _ _ _ _ _ _ hm
  · exact fr_X12_goSeals_b197 fu x1 hk15 _ _ _ _ _ hm
theorem fr_X12_goSeals_b157 {M0 : xM} (fu : Nat)  (x1 : Int32) {k15 : Int32 → Int32 → Int32 → Int32 → xM → Option (xM)} (hk15 : ∀ (b0 : Int32) (b1 : Int32) (b2 : Int32) (b3 : Int32) (M : xM), xfr wr_X12_goSeals M0 M → Fr wr_X12_goSeals M0 id (k15 b0 b1 b2 b3 M)) (x2 : Int32) (x3 : Int32) (x4 : Int32) (x5 : Int32) (x6 : Int32) (x7 : Int32) (s0 : Int32) (s1 : Int32) (M : xM) (hm : xfr wr_X12_goSeals M0 M) : Fr wr_X12_goSeals M0 id (F_X12_goSeals_b157 fu x1 k15 x2 x3 x4 x5 x6 x7 s0 s1 M) := by
  unfold F_X12_goSeals_b157
  refine Fr.ite Fr.none ?_
  refine Fr.ite ?_ ?_
  · refine Fr.ite Fr.none ?_
    exact fr_X12_goSeals_b181 fu x1 hk15 _ _ _ _ _ _ _ (by repeat first | exact hm | refine xfr.setf ?_ (by first | decide | exact xin_none (by decide) _))
  · exact fr_X12_goSeals_b181 fu x1 hk15 _ _ _ _ _ _ _ (by repeat first | exact hm | refine xfr.setf ?_ (by first | decide | exact xin_none (by decide) _))
theorem fr_X12_goSeals_b129 {M0 : xM} (fu : Nat)  (x1 : Int32) {k15 : Int32 → Int32 → Int32 → Int32 → xM → Option (xM)} (hk15 : ∀ (b0 : Int32) (b1 : Int32) (b2 : Int32) (b3 : Int32) (M : xM), xfr wr_X12_goSeals M0 M → Fr wr_X12_goSeals M0 id (k15 b0 b1 b2 b3 M)) (x2 : Int32) (x3 : Int32) (x4 : Int32) (x5 : Int32) (x6 : Int32) (x7 : Int32) (x8 : Int32) (s0 : Int32) (s1 : Int32) (M : xM) (hm : xfr wr_X12_goSeals M0 M) : Fr wr_X12_goSeals M0 id (F_X12_goSeals_b129 fu x1 k15 x2 x3 x4 x5 x6 x7 x8 s0 s1 M) := by
  unfold F_X12_goSeals_b129
  refine Fr.ite Fr.none ?_
  refine Fr.ite Fr.none ?_
  refine Fr.ite ?_ ?_
  · exact fr_X12_goSeals_b157 fu x1 hk15 _ _ _ _ _ _ _ _ _ (by repeat first | exact hm | refine xfr.setf ?_ (by first | decide | exact xin_none (by decide) _))
  · exact fr_X12_goSeals_b157 fu x1 hk15 _ _ _ _ _ _ _ _ _ (by repeat first | exact hm | refine xfr.setf ?_ (by first | decide | exact xin_none (by decide) _))
theorem fr_X12_goSeals_b124 {M0 : xM} (fu : Nat)  (x1 : Int32) {k15 : Int32 → Int32 → Int32 → Int32 → xM → Option (xM)} (hk15 : ∀ (b0 : Int32) (b1 : Int32) (b2 : Int32) (b3 : Int32) (M : xM), xfr wr_X12_goSeals M0 M → Fr wr_X12_goSeals M0 id (k15 b0 b1 b2 b3 M)) (x2 : Int32) (x3 : Int32) (x4 : Int32) (x5 : Int32) (x6 : Int32) (x7 : Int32) (x8 : Int32) (s0 : Int32) (M : xM) (hm : xfr wr_X12_goSeals M0 M) : Fr wr_X12_goSeals M0 id (F_X12_goSeals_b124 fu x1 k15 x2 x3 x4 x5 x6 x7 x8 s0 M) := by
  unfold F_X12_goSeals_b124
  exact fr_X12_goSeals_b129 fu x1 hk15 _ _ _ _ _ _ _ _ _ _ hm
theorem fr_X12_goSeals_b107 {M0 : xM} (fu : Nat)  (x1 : Int32) {k15 : Int32 → Int32 → Int32 → Int32 → xM → Option (xM)} (hk15 : ∀ (b0 : Int32) (b1 : Int32) (b2 : Int32) (b3 : Int32) (M : xM), xfr wr_X12_goSeals M0 M → Fr wr_X12_goSeals M0 id (k15 b0 b1 b2 b3 M)) (x2 : Int32) (x3 : Int32) (x4 : Int32) (x5 : Int32) (x6 : Int32) (x7 : Int32) (s0 : Int32) (M : xM) (hm : xfr wr_X12_goSeals M0 M) : Fr wr_X12_goSeals M0 id (F_X12_goSeals_b107 fu x1 k15 x2 x3 x4 x5 x6 x7 s0 M) := by
  unfold F_X12_goSeals_b107
  refine Fr.ite ?_ ?_
  · refine Fr.ite ?_ ?_
    · exact fr_X12_goSeals_b129 fu x1 hk15 _ _ _ _ _ _ _ _ _ _ hm
    · exact fr_X12_goSeals_b124 fu x1 hk15 _ _ _ _ _ _ _ _ _ hm
  · exact fr_X12_goSeals_b124 fu x1 hk15 _ _ _ _ _ _ _ _ _ hm
theorem fr_X12_goSeals_b102 {M0 : xM} (fu : Nat)  (x1 : Int32) {k15 : Int32 → Int32 → Int32 → Int32 → xM → Option (xM)} (hk15 : ∀ (b0 : Int32) (b1 : Int32) (b2 : Int32) (b3 : Int32) (M : xM), xfr wr_X12_goSeals M0 M → Fr wr_X12_goSeals M0 id (k15 b0 b1 b2 b3 M)) (x2 : Int32) (x3 : Int32) (x4 : Int32) (x5 : Int32) (x6 : Int32) (x7 : Int32) (M : xM) (hm : xfr wr_X12_goSeals M0 M) : Fr wr_X12_goSeals M0 id (F_X12_goSeals_b102 fu x1 k15 x2 x3 x4 x5 x6 x7 M) := by
  unfold F_X12_goSeals_b102
  exact fr_X12_goSeals_b107 fu x1 hk15 _ _ _ _ _ _ _ _ hm
theorem fr_X12_goSeals_b106 {M0 : xM} (fu : Nat)  (x1 : Int32) {k15 : Int32 → Int32 → Int32 → Int32 → xM → Option (xM)} (hk15 : ∀ (b0 : Int32) (b1 : Int32) (b2 : Int32) (b3 : Int32) (M : xM), xfr wr_X12_goSeals M0 M → Fr wr_X12_goSeals M0 id (k15 b0 b1 b2 b3 M)) (x2 : Int32) (x3 : Int32) (x4 : Int32) (x5 : Int32) (x6 : Int32) (x7 : Int32) (M : xM) (hm : xfr wr_X12_goSeals M0 M) : Fr wr_X12_goSeals M0 id (F_X12_goSeals_b106 fu x1 k15 x2 x3 x4 x5 x6 x7 M) := by
  unfold F_X12_goSeals_b106
  exact fr_X12_goSeals_b107 fu x1 hk15 _ _ _ _ _ _ _ _ hm
theorem fr_X12_goSeals_b88 {M0 : xM} (fu : Nat)  (x1 : Int32) {k15 : Int32 → Int32 → Int32 → Int32 → xM → Option (xM)} (hk15 : ∀ (b0 : Int32) (b1 : Int32) (b2 : Int32) (b3 : Int32) (M : xM), xfr wr_X12_goSeals M0 M → Fr wr_X12_goSeals M0 id (k15 b0 b1 b2 b3 M)) (x2 : Int32) (x3 : Int32) (x4 : Int32) (x5 : Int32) (x6 : Int32) (x7 : Int32) (M : xM) (hm : xfr wr_X12_goSeals M0 M) : Fr wr_X12_goSeals M0 id (F_X12_goSeals_b88 fu x1 k15 x2 x3 x4 x5 x6 x7 M) := by
  unfold F_X12_goSeals_b88
  refine Fr.ite Fr.none ?_
  refine Fr.ite ?_ ?_
  · refine Fr.ite ?_ ?_
    · exact fr_X12_goSeals_b102 fu x1 hk15 _ _ _ _ _ _ _ hm
    · exact fr_X12_goSeals_b106 fu x1 hk15 _ _ _ _ _ _ _ hm
  · exact fr_X12_goSeals_b106 fu x1 hk15 _ _ _ _ _ _ _ hm
theorem fr_X12_goSeals_b66 {M0 : xM} (fu : Nat)  (x1 : Int32) {k15 : Int32 → Int32 → Int32 → Int32 → xM → Option (xM)} (hk15 : ∀ (b0 : Int32) (b1 : Int32) (b2 : Int32) (b3 : Int32) (M : xM), xfr wr_X12_goSeals M0 M → Fr wr_X12_goSeals M0 id (k15 b0 b1 b2 b3 M)) (x2 : Int32) (x3 : Int32) (x4 : Int32) (x5 : Int32) (x6 : Int32) (s0 : Int32) (M : xM) (hm : xfr wr_X12_goSeals M0 M) : Fr wr_X12_goSeals M0 id (F_X12_goSeals_b66 fu x1 k15 x2 x3 x4 x5 x6 s0 M) := by
  unfold F_X12_goSeals_b66
  refine Fr.ite Fr.none ?_
  refine Fr.ite ?_ ?_
  · refine Fr.ite ?_ ?_
    · refine Fr.ite ?_ ?_
      · exact fr_X12_goSeals_b88 fu x1 hk15 _ _ _ _ _ _ _ hm
      · exact fr_X12_goSeals_b102 fu x1 hk15 _ _ _ _ _ _ _ hm
    · exact fr_X12_goSeals_b102 fu x1 hk15 _ _ _ _ _ _ _ hm
  · exact fr_X12_goSeals_b88 fu x1 hk15 _ _ _ _ _ _ _ hm
theorem fr_X12_goSeals_b65 {M0 : xM} (fu : Nat)  (x1 : Int32) {k15 : Int32 → Int32 → Int32 → Int32 → xM → Option (xM)} (hk15 : ∀ (b0 : Int32) (b1 : Int32) (b2 : Int32) (b3 : Int32) (M : xM), xfr wr_X12_goSeals M0 M → Fr wr_X12_goSeals M0 id (k15 b0 b1 b2 b3 M)) (x2 : Int32) (x3 : Int32) (x4 : Int32) (x5 : Int32) (x6 : Int32) (M : xM) (hm : xfr wr_X12_goSeals M0 M) : Fr wr_X12_goSeals M0 id (F_X12_goSeals_b65 fu x1 k15 x2 x3 x4 x5 x6 M) := by
  unfold F_X12_goSeals_b65
  exact fr_X12_goSeals_b66 fu x1 hk15 _ _ _ _ _ _ _ hm
theorem fr_X12_goSeals_b15 {M0 : xM} (fu : Nat)  (x1 : Int32)  : ∀ (n : Nat) (x2 : Int32) (x3 : Int32) (x4 : Int32) (x5 : Int32) (M : xM), xfr wr_X12_goSeals M0 M → Fr wr_X12_goSeals M0 id (F_X12_goSeals_b15 fu x1 n x2 x3 x4 x5 M) := by
  intro n
  induction n with
  | zero =>
    intro x2 x3 x4 x5 M hm
    exact Fr.none
  | succ n ih =>
    intro x2 x3 x4 x5 M hm
    rw [F_X12_goSeals_b15]
    refine Fr.ite Fr.none ?_
    refine Fr.ite ?_ ?_
    · refine Fr.ite Fr.none ?_
      refine Fr.ite Fr.none ?_
      refine Fr.ite Fr.none ?_
      refine Fr.ite Fr.none ?_
      exact Fr.somev (by repeat first | exact hm | refine xfr.setf ?_ (by first | decide | exact xin_none (by decide) _))
    · refine Fr.ite Fr.none ?_
      refine Fr.ite ?_ ?_
      · refine Fr.ite ?_ ?_
        · refine Fr.ite Fr.none ?_
          refine Fr.ite ?_ ?_
          · exact fr_X12_goSeals_b65 fu x1 ih _ _ _ _ _ _ (by repeat first | exact hm | refine xfr.setf ?_ (by first | decide | exact xin_none (by decide) _))
          · exact fr_X12_goSeals_b66 fu x1 ih _ _ _ _ _ _ _ (by repeat first | exact hm | refine xfr.setf ?_ (by first | decide | exact xin_none (by decide) _))
        · exact fr_X12_goSeals_b65 fu x1 ih _ _ _ _ _ _ (by repeat first | exact hm | refine xfr.setf ?_ (by first | decide | exact xin_none (by decide) _))
      · exact fr_X12_goSeals_b65 fu x1 ih _ _ _ _ _ _ (by repeat first | exact hm | refine xfr.setf ?_ (by first | decide | exact xin_none (by decide) _))
theorem fr_X12_goSeals_b0 {M0 : xM} (fu : Nat)  (x1 : Int32)   (M : xM) (hm : xfr wr_X12_goSeals M0 M) : Fr wr_X12_goSeals M0 id (F_X12_goSeals fu x1  M) := by
  unfold F_X12_goSeals
  exact fr_X12_goSeals_b15 fu x1  fu _ _ _ _ _ (by repeat first | exact hm | refine xfr.setf ?_ (by first | decide | exact xin_none (by decide) _))
theorem fr_X12_goSeals (fu : Nat)  (x1 : Int32) (M : xM) : Fr wr_X12_goSeals M id (F_X12_goSeals fu x1  M) := fr_X12_goSeals_b0 fu x1  M xfr.rf
theorem fr_X12_badOnes_b0 {M0 : xM} (fu : Nat)  (x1 : Int32)   (M : xM) (hm : xfr wr_X12_badOnes M0 M) : Fr wr_X12_badOnes M0 Prod.snd (F_X12_badOnes fu x1  M) := by
  unfold F_X12_badOnes
  refine Fr.ite ?_ ?_
  · exact Fr.some (by repeat first | exact hm | refine xfr.setf ?_ (by first | decide | exact xin_none (by decide) _))
  · refine Fr.bind (fr_X12_goSeals fu _ _) (by decide) (by repeat first | exact hm | refine xfr.setf ?_ (by first | decide | exact xin_none (by decide) _)) (fun q1 hm => ?_)
    exact Fr.some (by repeat first | exact hm | refine xfr.setf ?_ (by first | decide | exact xin_none (by decide) _))
theorem fr_X12_badOnes (fu : Nat)  (x1 : Int32) (M : xM) : Fr wr_X12_badOnes M Prod.snd (F_X12_badOnes fu x1  M) := fr_X12_badOnes_b0 fu x1  M xfr.rf
theorem fr_X12_openWithin_b122 {M0 : xM} (fu : Nat)  (x1 : Int32) (x2 : Int32) (x3 : Int32) (x4 : Int32) {k11 : Int32 → Int32 → xM → Option (Int32 × xM)} (hk11 : ∀ (b0 : Int32) (b1 : Int32) (M : xM), xfr wr_X12_openWithin M0 M → Fr wr_X12_openWithin M0 Prod.snd (k11 b0 b1 M)) (x5 : Int32) (x6 : Int32) (M : xM) (hm : xfr wr_X12_openWithin M0 M) : Fr wr_X12_openWithin M0 Prod.snd (F_X12_openWithin_b122 fu x1 x2 x3 x4 k11 x5 x6 M) := by
  unfold F_X12_openWithin_b122
  exact hk11 _ _ _ hm
theorem fr_X12_openWithin_b76 {M0 : xM} (fu : Nat)  (x1 : Int32) (x2 : Int32) (x3 : Int32) (x4 : Int32) {k11 : Int32 → Int32 → xM → Option (Int32 × xM)} (hk11 : ∀ (b0 : Int32) (b1 : Int32) (M : xM), xfr wr_X12_openWithin M0 M → Fr wr_X12_openWithin M0 Prod.snd (k11 b0 b1 M)) (x5 : Int32) (x6 : Int32) (x7 : Int32) (s0 : Int32) (M : xM) (hm : xfr wr_X12_openWithin M0 M) : Fr wr_X12_openWithin M0 Prod.snd (F_X12_openWithin_b76 fu x1 x2 x3 x4 k11 x5 x6 x7 s0 M) := by
  unfold F_X12_openWithin_b76
  refine Fr.ite Fr.none ?_
  refine Fr.ite ?_ ?_
  · exact fr_X12_openWithin_b122 fu x1 x2 x3 x4 hk11 _ _ _ hm
  · refine Fr.ite Fr.none ?_
    refine Fr.ite ?_ ?_
    · exact fr_X12_openWithin_b122 fu x1 x2 x3 x4 hk11 _ _ _ hm
    · exact fr_X12_openWithin_b122 fu x1 x2 x3 x4 hk11 _ _ _ hm
theorem fr_X12_openWithin_b45 {M0 : xM} (fu : Nat)  (x1 : Int32) (x2 : Int32) (x3 : Int32) (x4 : Int32) {k11 : Int32 → Int32 → xM → Option (Int32 × xM)} (hk11 : ∀ (b0 : Int32) (b1 : Int32) (M : xM), xfr wr_X12_openWithin M0 M → Fr wr_X12_openWithin M0 Prod.snd (k11 b0 b1 M)) (x5 : Int32) (x6 : Int32) (s0 : Int32) (M : xM) (hm : xfr wr_X12_openWithin M0 M) : Fr wr_X12_openWithin M0 Prod.snd (F_X12_openWithin_b45 fu x1 x2 x3 x4 k11 x5 x6 s0 M) := by
  unfold F_X12_openWithin_b45
  refine Fr.ite Fr.none ?_
  refine Fr.ite ?_ ?_
  · exact fr_X12_openWithin_b76 fu x1 x2 x3 x4 hk11 _ _ _ _ _ hm
  · refine Fr.ite Fr.none ?_
    exact fr_X12_openWithin_b76 fu x1 x2 x3 x4 hk11 _ _ _ _ _ hm
theorem fr_X12_openWithin_b11 {M0 : xM} (fu : Nat)  (x1 : Int32) (x2 : Int32) (x3 : Int32) (x4 : Int32)  : ∀ (n : Nat) (x5 : Int32) (x6 : Int32) (M : xM), xfr wr_X12_openWithin M0 M → Fr wr_X12_openWithin M0 Prod.snd (F_X12_openWithin_b11 fu x1 x2 x3 x4 n x5 x6 M) := by
  intro n
  induction n with
  | zero =>
    intro x5 x6 M hm
    exact Fr.none
  | succ n ih =>
    intro x5 x6 M hm
    rw [F_X12_openWithin_b11]
    refine Fr.ite Fr.none ?_
    refine Fr.ite ?_ ?_
    · exact Fr.some hm
    · refine Fr.ite ?_ ?_
      · exact fr_X12_openWithin_b45 fu x1 x2 x3 x4 ih _ _ _ _ hm
      · refine Fr.ite Fr.none ?_
        exact fr_X12_openWithin_b45 fu x1 x2 x3 x4 ih _ _ _ _ hm
theorem fr_X12_openWithin_b0 {M0 : xM} (fu : Nat)  (x1 : Int32) (x2 : Int32) (x3 : Int32) (x4 : Int32)   (M : xM) (hm : xfr wr_X12_openWithin M0 M) : Fr wr_X12_openWithin M0 Prod.snd (F_X12_openWithin fu x1 x2 x3 x4  M) := by
  unfold F_X12_openWithin
  refine Fr.bind (fr_X12_goSeals fu _ _) (by decide) hm (fun q1 hm => ?_)
  exact fr_X12_openWithin_b11 fu x1 x2 x3 x4  fu _ _ _ hm
theorem fr_X12_openWithin (fu : Nat)  (x1 : Int32) (x2 : Int32) (x3 : Int32) (x4 : Int32) (M : xM) : Fr wr_X12_openWithin M Prod.snd (F_X12_openWithin fu x1 x2 x3 x4  M) := fr_X12_openWithin_b0 fu x1 x2 x3 x4  M xfr.rf
theorem fr_X12_exposed_b0 {M0 : xM} (fu : Nat)  (x1 : Int32) (x2 : Int32) (x3 : Int32)   (M : xM) (hm : xfr wr_X12_exposed M0 M) : Fr wr_X12_exposed M0 Prod.snd (F_X12_exposed fu x1 x2 x3  M) := by
  unfold F_X12_exposed
  refine Fr.ite ?_ ?_
  · exact Fr.some (by repeat first | exact hm | refine xfr.setf ?_ (by first | decide | exact xin_none (by decide) _))
  · refine Fr.ite ?_ ?_
    · exact Fr.some (by repeat first | exact hm | refine xfr.setf ?_ (by first | decide | exact xin_none (by decide) _))
    · refine Fr.bind (fr_X12_openWithin fu _ _ _ _ _) (by decide) (by repeat first | exact hm | refine xfr.setf ?_ (by first | decide | exact xin_none (by decide) _)) (fun q1 hm => ?_)
      exact Fr.some (by repeat first | exact hm | refine xfr.setf ?_ (by first | decide | exact xin_none (by decide) _))
theorem fr_X12_exposed (fu : Nat)  (x1 : Int32) (x2 : Int32) (x3 : Int32) (M : xM) : Fr wr_X12_exposed M Prod.snd (F_X12_exposed fu x1 x2 x3  M) := fr_X12_exposed_b0 fu x1 x2 x3  M xfr.rf
theorem fr_X12_placeAt_b80 {M0 : xM} (fu : Nat)  (x1 : Int32) (x2 : Int32) {k34 : Int32 → Int32 → xM → Option (Int32 × xM)} (hk34 : ∀ (b0 : Int32) (b1 : Int32) (M : xM), xfr wr_X12_placeAt M0 M → Fr wr_X12_placeAt M0 Prod.snd (k34 b0 b1 M)) (x3 : Int32) (x4 : Int32) (M : xM) (hm : xfr wr_X12_placeAt M0 M) : Fr wr_X12_placeAt M0 Prod.snd (F_X12_placeAt_b80 fu x1 x2 k34 x3 x4 M) := by
  unfold F_X12_placeAt_b80
  exact hk34 _ _ _ hm
theorem fr_X12_placeAt_b34 {M0 : xM} (fu : Nat)  (x1 : Int32) (x2 : Int32)  : ∀ (n : Nat) (x3 : Int32) (x4 : Int32) (M : xM), xfr wr_X12_placeAt M0 M → Fr wr_X12_placeAt M0 Prod.snd (F_X12_placeAt_b34 fu x1 x2 n x3 x4 M) := by
  intro n
  induction n with
  | zero =>
    intro x3 x4 M hm
    exact Fr.none
  | succ n ih =>
    intro x3 x4 M hm
    rw [F_X12_placeAt_b34]
    refine Fr.ite Fr.none ?_
    refine Fr.ite ?_ ?_
    · exact Fr.some hm
    · refine Fr.ite Fr.none ?_
      refine Fr.ite ?_ ?_
      · refine Fr.ite Fr.none ?_
        refine Fr.ite ?_ ?_
        · exact fr_X12_placeAt_b80 fu x1 x2 ih _ _ _ hm
        · refine Fr.ite Fr.none ?_
          exact fr_X12_placeAt_b80 fu x1 x2 ih _ _ _ hm
      · exact fr_X12_placeAt_b80 fu x1 x2 ih _ _ _ hm
theorem fr_X12_placeAt_b0 {M0 : xM} (fu : Nat)  (x1 : Int32) (x2 : Int32)   (M : xM) (hm : xfr wr_X12_placeAt M0 M) : Fr wr_X12_placeAt M0 Prod.snd (F_X12_placeAt fu x1 x2  M) := by
  unfold F_X12_placeAt
  refine Fr.ite ?_ ?_
  · exact Fr.some (by repeat first | exact hm | refine xfr.setf ?_ (by first | decide | exact xin_none (by decide) _))
  · refine Fr.ite ?_ ?_
    · exact Fr.some (by repeat first | exact hm | refine xfr.setf ?_ (by first | decide | exact xin_none (by decide) _))
    · exact fr_X12_placeAt_b34 fu x1 x2  fu _ _ _ (by repeat first | exact hm | refine xfr.setf ?_ (by first | decide | exact xin_none (by decide) _))
theorem fr_X12_placeAt (fu : Nat)  (x1 : Int32) (x2 : Int32) (M : xM) : Fr wr_X12_placeAt M Prod.snd (F_X12_placeAt fu x1 x2  M) := fr_X12_placeAt_b0 fu x1 x2  M xfr.rf
theorem fr_X12_alone_b0 {M0 : xM} (fu : Nat)  (x1 : Int32) (x2 : Int32) (x3 : Int32) (x4 : Int32)   (M : xM) (hm : xfr wr_X12_alone M0 M) : Fr wr_X12_alone M0 Prod.snd (F_X12_alone fu x1 x2 x3 x4  M) := by
  unfold F_X12_alone
  refine Fr.ite ?_ ?_
  · exact Fr.some (by repeat first | exact hm | refine xfr.setf ?_ (by first | decide | exact xin_none (by decide) _))
  · refine Fr.ite ?_ ?_
    · exact Fr.some (by repeat first | exact hm | refine xfr.setf ?_ (by first | decide | exact xin_none (by decide) _))
    · refine Fr.ite ?_ ?_
      · exact Fr.some (by repeat first | exact hm | refine xfr.setf ?_ (by first | decide | exact xin_none (by decide) _))
      · refine Fr.bind (fr_X12_openWithin fu _ _ _ _ _) (by decide) (by repeat first | exact hm | refine xfr.setf ?_ (by first | decide | exact xin_none (by decide) _)) (fun q1 hm => ?_)
        exact Fr.some (by repeat first | exact hm | refine xfr.setf ?_ (by first | decide | exact xin_none (by decide) _))
theorem fr_X12_alone (fu : Nat)  (x1 : Int32) (x2 : Int32) (x3 : Int32) (x4 : Int32) (M : xM) : Fr wr_X12_alone M Prod.snd (F_X12_alone fu x1 x2 x3 x4  M) := fr_X12_alone_b0 fu x1 x2 x3 x4  M xfr.rf
theorem fr_X12_recount_b0 {M0 : xM}  (x1 : Int32) (x2 : Int32) (x3 : Int32)   (M : xM) (hm : xfr wr_X12_recount M0 M) : Fr wr_X12_recount M0 Prod.snd (F_X12_recount x1 x2 x3  M) := by
  unfold F_X12_recount
  refine Fr.ite ?_ ?_
  · exact Fr.some (by repeat first | exact hm | refine xfr.setf ?_ (by first | decide | exact xin_none (by decide) _))
  · refine Fr.ite ?_ ?_
    · exact Fr.some (by repeat first | exact hm | refine xfr.setf ?_ (by first | decide | exact xin_none (by decide) _))
    · refine Fr.ite Fr.none ?_
      refine Fr.ite ?_ ?_
      · exact Fr.some (by repeat first | exact hm | refine xfr.setf ?_ (by first | decide | exact xin_none (by decide) _))
      · refine Fr.ite Fr.none ?_
        refine Fr.ite Fr.none ?_
        refine Fr.ite Fr.none ?_
        refine Fr.ite Fr.none ?_
        refine Fr.ite Fr.none ?_
        exact Fr.some (by repeat first | exact hm | refine xfr.setf ?_ (by first | decide | exact xin_none (by decide) _))
theorem fr_X12_recount  (x1 : Int32) (x2 : Int32) (x3 : Int32) (M : xM) : Fr wr_X12_recount M Prod.snd (F_X12_recount  x1 x2 x3  M) := fr_X12_recount_b0 x1 x2 x3  M xfr.rf
theorem fr_X12_kept_b0 {M0 : xM}  (x1 : Int32) (x2 : Int32) (x3 : Int32)   (M : xM) (hm : xfr wr_X12_kept M0 M) : Fr wr_X12_kept M0 Prod.snd (F_X12_kept x1 x2 x3  M) := by
  unfold F_X12_kept
  refine Fr.ite ?_ ?_
  · exact Fr.some (by repeat first | exact hm | refine xfr.setf ?_ (by first | decide | exact xin_none (by decide) _))
  · refine Fr.ite Fr.none ?_
    refine Fr.ite ?_ ?_
    · exact Fr.some (by repeat first | exact hm | refine xfr.setf ?_ (by first | decide | exact xin_none (by decide) _))
    · refine Fr.ite Fr.none ?_
      exact Fr.some (by repeat first | exact hm | refine xfr.setf ?_ (by first | decide | exact xin_none (by decide) _))
theorem fr_X12_kept  (x1 : Int32) (x2 : Int32) (x3 : Int32) (M : xM) : Fr wr_X12_kept M Prod.snd (F_X12_kept  x1 x2 x3  M) := fr_X12_kept_b0 x1 x2 x3  M xfr.rf
theorem fr_X12_changed_b72 {M0 : xM} (fu : Nat)  (x1 : Int32) (x2 : Int32) {k37 : Int32 → Int32 → Int32 → Int32 → xM → Option (Int32 × xM)} (hk37 : ∀ (b0 : Int32) (b1 : Int32) (b2 : Int32) (b3 : Int32) (M : xM), xfr wr_X12_changed M0 M → Fr wr_X12_changed M0 Prod.snd (k37 b0 b1 b2 b3 M)) (x3 : Int32) (x6 : Int32) (s0 : Int32) (s1 : Int32) (M : xM) (hm : xfr wr_X12_changed M0 M) : Fr wr_X12_changed M0 Prod.snd (F_X12_changed_b72 fu x1 x2 k37 x3 x6 s0 s1 M) := by
  unfold F_X12_changed_b72
  refine Fr.ite Fr.none ?_
  exact hk37 _ _ _ _ _ hm
theorem fr_X12_changed_b37 {M0 : xM} (fu : Nat)  (x1 : Int32) (x2 : Int32)  : ∀ (n : Nat) (x3 : Int32) (x4 : Int32) (x5 : Int32) (x6 : Int32) (M : xM), xfr wr_X12_changed M0 M → Fr wr_X12_changed M0 Prod.snd (F_X12_changed_b37 fu x1 x2 n x3 x4 x5 x6 M) := by
  intro n
  induction n with
  | zero =>
    intro x3 x4 x5 x6 M hm
    exact Fr.none
  | succ n ih =>
    intro x3 x4 x5 x6 M hm
    rw [F_X12_changed_b37]
    refine Fr.ite Fr.none ?_
    refine Fr.ite ?_ ?_
    · exact Fr.some hm
    · refine Fr.ite Fr.none ?_
      refine Fr.ite ?_ ?_
      · exact fr_X12_changed_b72 fu x1 x2 ih _ _ _ _ _ hm
      · exact fr_X12_changed_b72 fu x1 x2 ih _ _ _ _ _ hm
theorem fr_X12_changed_b0 {M0 : xM} (fu : Nat)  (x1 : Int32) (x2 : Int32)   (M : xM) (hm : xfr wr_X12_changed M0 M) : Fr wr_X12_changed M0 Prod.snd (F_X12_changed fu x1 x2  M) := by
  unfold F_X12_changed
  refine Fr.ite ?_ ?_
  · exact Fr.some (by repeat first | exact hm | refine xfr.setf ?_ (by first | decide | exact xin_none (by decide) _))
  · refine Fr.ite Fr.none ?_
    exact fr_X12_changed_b37 fu x1 x2  fu _ _ _ _ _ (by repeat first | exact hm | refine xfr.setf ?_ (by first | decide | exact xin_none (by decide) _))
theorem fr_X12_changed (fu : Nat)  (x1 : Int32) (x2 : Int32) (M : xM) : Fr wr_X12_changed M Prod.snd (F_X12_changed fu x1 x2  M) := fr_X12_changed_b0 fu x1 x2  M xfr.rf
theorem fr_X12_latest_b0 {M0 : xM}  (x1 : Int32)   (M : xM) (hm : xfr wr_X12_latest M0 M) : Fr wr_X12_latest M0 Prod.snd (F_X12_latest x1  M) := by
  unfold F_X12_latest
  refine Fr.ite Fr.none ?_
  refine Fr.ite ?_ ?_
  · refine Fr.ite Fr.none ?_
    exact Fr.some hm
  · refine Fr.ite Fr.none ?_
    refine Fr.ite Fr.none ?_
    exact Fr.some hm
theorem fr_X12_latest  (x1 : Int32) (M : xM) : Fr wr_X12_latest M Prod.snd (F_X12_latest  x1  M) := fr_X12_latest_b0 x1  M xfr.rf
theorem fr_X12_differing_b44 {M0 : xM} (fu : Nat)  (x1 : Int32) {k4 : Int32 → Int32 → xM → Option (Int32 × xM)} (hk4 : ∀ (b0 : Int32) (b1 : Int32) (M : xM), xfr wr_X12_differing M0 M → Fr wr_X12_differing M0 Prod.snd (k4 b0 b1 M)) (x3 : Int32) (s0 : Int32) (s1 : Int32) (M : xM) (hm : xfr wr_X12_differing M0 M) : Fr wr_X12_differing M0 Prod.snd (F_X12_differing_b44 fu x1 k4 x3 s0 s1 M) := by
  unfold F_X12_differing_b44
  exact hk4 _ _ _ hm
theorem fr_X12_differing_b4 {M0 : xM} (fu : Nat)  (x1 : Int32)  : ∀ (n : Nat) (x2 : Int32) (x3 : Int32) (M : xM), xfr wr_X12_differing M0 M → Fr wr_X12_differing M0 Prod.snd (F_X12_differing_b4 fu x1 n x2 x3 M) := by
  intro n
  induction n with
  | zero =>
    intro x2 x3 M hm
    exact Fr.none
  | succ n ih =>
    intro x2 x3 M hm
    rw [F_X12_differing_b4]
    refine Fr.ite ?_ ?_
    · exact Fr.some hm
    · refine Fr.bind (fr_X12_latest _ _) (by decide) hm (fun q1 hm => ?_)
      refine Fr.ite Fr.none ?_
      refine Fr.ite ?_ ?_
      · exact fr_X12_differing_b44 fu x1 ih _ _ _ _ hm
      · exact fr_X12_differing_b44 fu x1 ih _ _ _ _ hm
theorem fr_X12_differing_b0 {M0 : xM} (fu : Nat)  (x1 : Int32)   (M : xM) (hm : xfr wr_X12_differing M0 M) : Fr wr_X12_differing M0 Prod.snd (F_X12_differing fu x1  M) := by
  unfold F_X12_differing
  exact fr_X12_differing_b4 fu x1  fu _ _ _ hm
theorem fr_X12_differing (fu : Nat)  (x1 : Int32) (M : xM) : Fr wr_X12_differing M Prod.snd (F_X12_differing fu x1  M) := fr_X12_differing_b0 fu x1  M xfr.rf
theorem fr_X12_differs_b0 {M0 : xM} (fu : Nat)  (x1 : Int32)   (M : xM) (hm : xfr wr_X12_differs M0 M) : Fr wr_X12_differs M0 Prod.snd (F_X12_differs fu x1  M) := by
  unfold F_X12_differs
  refine Fr.ite ?_ ?_
  · exact Fr.some (by repeat first | exact hm | refine xfr.setf ?_ (by first | decide | exact xin_none (by decide) _))
  · refine Fr.bind (fr_X12_differing fu _ _) (by decide) (by repeat first | exact hm | refine xfr.setf ?_ (by first | decide | exact xin_none (by decide) _)) (fun q1 hm => ?_)
    exact Fr.some (by repeat first | exact hm | refine xfr.setf ?_ (by first | decide | exact xin_none (by decide) _))
theorem fr_X12_differs (fu : Nat)  (x1 : Int32) (M : xM) : Fr wr_X12_differs M Prod.snd (F_X12_differs fu x1  M) := fr_X12_differs_b0 fu x1  M xfr.rf
theorem fr_X12_take_b23 {M0 : xM} (fu : Nat)  (x1 : Int32)  : ∀ (n : Nat) (x2 : Int32) (x3 : Int32) (M : xM), xfr wr_X12_take M0 M → Fr wr_X12_take M0 Prod.snd (F_X12_take_b23 fu x1 n x2 x3 M) := by
  intro n
  induction n with
  | zero =>
    intro x2 x3 M hm
    exact Fr.none
  | succ n ih =>
    intro x2 x3 M hm
    rw [F_X12_take_b23]
    refine Fr.ite ?_ ?_
    · exact Fr.some (by repeat first | exact hm | refine xfr.setf ?_ (by first | decide | exact xin_none (by decide) _))
    · refine Fr.bind (fr_X12_latest _ _) (by decide) (by repeat first | exact hm | refine xfr.setf ?_ (by first | decide | exact xin_none (by decide) _)) (fun q1 hm => ?_)
      refine Fr.ite Fr.none ?_
      exact ih _ _ _ (by repeat first | exact hm | refine xfr.setf ?_ (by first | decide | exact xin_none (by decide) _))
theorem fr_X12_take_b0 {M0 : xM} (fu : Nat)  (x1 : Int32)   (M : xM) (hm : xfr wr_X12_take M0 M) : Fr wr_X12_take M0 Prod.snd (F_X12_take fu x1  M) := by
  unfold F_X12_take
  refine Fr.ite ?_ ?_
  · exact Fr.some (by repeat first | exact hm | refine xfr.setf ?_ (by first | decide | exact xin_none (by decide) _))
  · refine Fr.bind (fr_X12_differing fu _ _) (by decide) (by repeat first | exact hm | refine xfr.setf ?_ (by first | decide | exact xin_none (by decide) _)) (fun q1 hm => ?_)
    exact fr_X12_take_b23 fu x1  fu _ _ _ (by repeat first | exact hm | refine xfr.setf ?_ (by first | decide | exact xin_none (by decide) _))
theorem fr_X12_take (fu : Nat)  (x1 : Int32) (M : xM) : Fr wr_X12_take M Prod.snd (F_X12_take fu x1  M) := fr_X12_take_b0 fu x1  M xfr.rf
theorem fr_X12_count_b0 {M0 : xM}  (x1 : Int32)   (M : xM) (hm : xfr wr_X12_count M0 M) : Fr wr_X12_count M0 Prod.snd (F_X12_count x1  M) := by
  unfold F_X12_count
  refine Fr.ite ?_ ?_
  · exact Fr.some (by repeat first | exact hm | refine xfr.setf ?_ (by first | decide | exact xin_none (by decide) _))
  · refine Fr.ite ?_ ?_
    · exact Fr.some (by repeat first | exact hm | refine xfr.setf ?_ (by first | decide | exact xin_none (by decide) _))
    · refine Fr.ite ?_ ?_
      · exact Fr.some (by repeat first | exact hm | refine xfr.setf ?_ (by first | decide | exact xin_none (by decide) _))
      · refine Fr.ite ?_ ?_
        · exact Fr.some (by repeat first | exact hm | refine xfr.setf ?_ (by first | decide | exact xin_none (by decide) _))
        · refine Fr.ite ?_ ?_
          · exact Fr.some (by repeat first | exact hm | refine xfr.setf ?_ (by first | decide | exact xin_none (by decide) _))
          · refine Fr.ite ?_ ?_
            · exact Fr.some (by repeat first | exact hm | refine xfr.setf ?_ (by first | decide | exact xin_none (by decide) _))
            · refine Fr.ite ?_ ?_
              · exact Fr.some (by repeat first | exact hm | refine xfr.setf ?_ (by first | decide | exact xin_none (by decide) _))
              · refine Fr.ite ?_ ?_
                · exact Fr.some (by repeat first | exact hm | refine xfr.setf ?_ (by first | decide | exact xin_none (by decide) _))
                · refine Fr.ite ?_ ?_
                  · exact Fr.some (by repeat first | exact hm | refine xfr.setf ?_ (by first | decide | exact xin_none (by decide) _))
                  · exact Fr.some (by repeat first | exact hm | refine xfr.setf ?_ (by first | decide | exact xin_none (by decide) _))
theorem fr_X12_count  (x1 : Int32) (M : xM) : Fr wr_X12_count M Prod.snd (F_X12_count  x1  M) := fr_X12_count_b0 x1  M xfr.rf
