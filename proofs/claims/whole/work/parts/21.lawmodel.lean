noncomputable def s_Law_loop_1553 (sx : Nat → Int32) (sn : Nat) (v3 : Int32) (h : Hp) : Option ((Int32 × Hp) ⊕ (Int32 × Hp)) :=
  some (.inl ((v3 + (6 : Int32)), h))
noncomputable def s_Law_loop_18 (sx : Nat → Int32) (sn : Nat) (v3 : Int32) (h : Hp) : Option ((Int32 × Hp) ⊕ (Int32 × Hp)) :=
  if ((nI sn) - ((6 : Int32))) < v3 then
    some (.inr ((1 : Int32), h))
  else
    ib v3 sn <| if ((sx (ix v3)) &&& ((63 : Int32))) = 0 then
      ib (v3 + ((1 : Int32))) sn <| ib (v3 + ((2 : Int32))) sn <| ib (v3 + ((3 : Int32))) sn <| (s_Race_sea (sx (ix (v3 + ((1 : Int32))))) (sx (ix (v3 + ((2 : Int32))))) (sx (ix (v3 + ((3 : Int32))))) h).bind fun u1 => ib (v3 + ((1 : Int32))) sn <| ib (v3 + ((2 : Int32))) sn <| ib (v3 + ((3 : Int32))) sn <| (s_Mod_sea (sx (ix (v3 + ((1 : Int32))))) (sx (ix (v3 + ((2 : Int32))))) (sx (ix (v3 + ((3 : Int32))))) u1.2).bind fun u2 => if u1.1 = u2.1 then
        s_Law_loop_1553 sx sn v3 u2.2
      else
        some (.inr ((0 : Int32), u2.2))
    else if ((sx (ix v3)) &&& ((63 : Int32))) = 1 then
      ib (v3 + ((1 : Int32))) sn <| ib (v3 + ((2 : Int32))) sn <| ib (v3 + ((3 : Int32))) sn <| ib (v3 + ((4 : Int32))) sn <| (s_Race_moon (sx (ix (v3 + ((1 : Int32))))) (sx (ix (v3 + ((2 : Int32))))) (sx (ix (v3 + ((3 : Int32))))) (sx (ix (v3 + ((4 : Int32))))) h).bind fun u3 => ib (v3 + ((1 : Int32))) sn <| ib (v3 + ((2 : Int32))) sn <| ib (v3 + ((3 : Int32))) sn <| ib (v3 + ((4 : Int32))) sn <| (s_Mod_moon (sx (ix (v3 + ((1 : Int32))))) (sx (ix (v3 + ((2 : Int32))))) (sx (ix (v3 + ((3 : Int32))))) (sx (ix (v3 + ((4 : Int32))))) u3.2).bind fun u4 => if u3.1 = u4.1 then
        s_Law_loop_1553 sx sn v3 u4.2
      else
        some (.inr ((0 : Int32), u4.2))
    else if ((sx (ix v3)) &&& ((63 : Int32))) = 2 then
      ib (v3 + ((1 : Int32))) sn <| ib (v3 + ((2 : Int32))) sn <| (s_Race_terms (sx (ix (v3 + ((1 : Int32))))) (sx (ix (v3 + ((2 : Int32))))) h).bind fun u5 => ib (v3 + ((1 : Int32))) sn <| ib (v3 + ((2 : Int32))) sn <| (s_Mod_terms (sx (ix (v3 + ((1 : Int32))))) (sx (ix (v3 + ((2 : Int32))))) u5.2).bind fun u6 => if u5.1 = u6.1 then
        s_Law_loop_1553 sx sn v3 u6.2
      else
        some (.inr ((0 : Int32), u6.2))
    else if ((sx (ix v3)) &&& ((63 : Int32))) = 3 then
      ib (v3 + ((1 : Int32))) sn <| ib (v3 + ((2 : Int32))) sn <| ib (v3 + ((3 : Int32))) sn <| ib (v3 + ((4 : Int32))) sn <| ib (v3 + ((5 : Int32))) sn <| (s_Race_feed (sx (ix (v3 + ((1 : Int32))))) (sx (ix (v3 + ((2 : Int32))))) (sx (ix (v3 + ((3 : Int32))))) (sx (ix (v3 + ((4 : Int32))))) (sx (ix (v3 + ((5 : Int32))))) h).bind fun u7 => ib (v3 + ((1 : Int32))) sn <| ib (v3 + ((2 : Int32))) sn <| ib (v3 + ((3 : Int32))) sn <| ib (v3 + ((4 : Int32))) sn <| ib (v3 + ((5 : Int32))) sn <| (s_Mod_feed (sx (ix (v3 + ((1 : Int32))))) (sx (ix (v3 + ((2 : Int32))))) (sx (ix (v3 + ((3 : Int32))))) (sx (ix (v3 + ((4 : Int32))))) (sx (ix (v3 + ((5 : Int32))))) u7.2).bind fun u8 => if u7.1 = u8.1 then
        s_Law_loop_1553 sx sn v3 u8.2
      else
        some (.inr ((0 : Int32), u8.2))
    else if ((sx (ix v3)) &&& ((63 : Int32))) = 4 then
      ib (v3 + ((1 : Int32))) sn <| (s_Race_end (sx (ix (v3 + ((1 : Int32))))) h).bind fun u9 => ib (v3 + ((1 : Int32))) sn <| (s_Mod_end (sx (ix (v3 + ((1 : Int32))))) u9.2).bind fun u10 => if u9.1 = u10.1 then
        s_Law_loop_1553 sx sn v3 u10.2
      else
        some (.inr ((0 : Int32), u10.2))
    else if ((sx (ix v3)) &&& ((63 : Int32))) = 5 then
      (s_Race_row h).bind fun u11 => (s_Mod_row u11.2).bind fun u12 => if u11.1 = u12.1 then
        s_Law_loop_1553 sx sn v3 u12.2
      else
        some (.inr ((0 : Int32), u12.2))
    else if ((sx (ix v3)) &&& ((63 : Int32))) = 6 then
      (s_Race_foul h).bind fun u13 => (s_Mod_foul h).bind fun u14 => if u13 = u14 then
        s_Law_loop_1553 sx sn v3 h
      else
        some (.inr ((0 : Int32), h))
    else if ((sx (ix v3)) &&& ((63 : Int32))) = 7 then
      (s_Race_law h).bind fun u15 => (s_Mod_law u15.2).bind fun u16 => if u15.1 = u16.1 then
        s_Law_loop_1553 sx sn v3 u16.2
      else
        some (.inr ((0 : Int32), u16.2))
    else if ((sx (ix v3)) &&& ((63 : Int32))) = 8 then
      (s_Race_fault h).bind fun u17 => (s_Mod_fault h).bind fun u18 => if u17 = u18 then
        s_Law_loop_1553 sx sn v3 h
      else
        some (.inr ((0 : Int32), h))
    else if ((sx (ix v3)) &&& ((63 : Int32))) = 9 then
      ib (v3 + ((1 : Int32))) sn <| (s_Race_force (sx (ix (v3 + ((1 : Int32))))) h).bind fun u19 => ib (v3 + ((1 : Int32))) sn <| (s_Mod_force (sx (ix (v3 + ((1 : Int32))))) u19.2).bind fun u20 => if u19.1 = u20.1 then
        s_Law_loop_1553 sx sn v3 u20.2
      else
        some (.inr ((0 : Int32), u20.2))
    else if ((sx (ix v3)) &&& ((63 : Int32))) = 10 then
      ib (v3 + ((1 : Int32))) sn <| ib (v3 + ((2 : Int32))) sn <| (s_Race_level (sx (ix (v3 + ((1 : Int32))))) (sx (ix (v3 + ((2 : Int32))))) h).bind fun u21 => ib (v3 + ((1 : Int32))) sn <| ib (v3 + ((2 : Int32))) sn <| (s_Mod_level (sx (ix (v3 + ((1 : Int32))))) (sx (ix (v3 + ((2 : Int32))))) u21.2).bind fun u22 => if u21.1 = u22 then
        s_Law_loop_1553 sx sn v3 u21.2
      else
        some (.inr ((0 : Int32), u21.2))
    else if ((sx (ix v3)) &&& ((63 : Int32))) = 11 then
      ib (v3 + ((1 : Int32))) sn <| (s_Race_flow (sx (ix (v3 + ((1 : Int32))))) h).bind fun u23 => ib (v3 + ((1 : Int32))) sn <| (s_Mod_flow (sx (ix (v3 + ((1 : Int32))))) u23.2).bind fun u24 => if u23.1 = u24.1 then
        s_Law_loop_1553 sx sn v3 u24.2
      else
        some (.inr ((0 : Int32), u24.2))
    else if ((sx (ix v3)) &&& ((63 : Int32))) = 12 then
      ib (v3 + ((1 : Int32))) sn <| ib (v3 + ((2 : Int32))) sn <| (s_Race_kind (sx (ix (v3 + ((1 : Int32))))) (sx (ix (v3 + ((2 : Int32))))) h).bind fun u25 => ib (v3 + ((1 : Int32))) sn <| ib (v3 + ((2 : Int32))) sn <| (s_Mod_kind (sx (ix (v3 + ((1 : Int32))))) (sx (ix (v3 + ((2 : Int32))))) u25.2).bind fun u26 => if u25.1 = u26.1 then
        s_Law_loop_1553 sx sn v3 u26.2
      else
        some (.inr ((0 : Int32), u26.2))
    else if ((sx (ix v3)) &&& ((63 : Int32))) = 13 then
      ib (v3 + ((1 : Int32))) sn <| ib (v3 + ((2 : Int32))) sn <| ib (v3 + ((3 : Int32))) sn <| (s_Race_cell (sx (ix (v3 + ((1 : Int32))))) (sx (ix (v3 + ((2 : Int32))))) (sx (ix (v3 + ((3 : Int32))))) h).bind fun u27 => ib (v3 + ((1 : Int32))) sn <| ib (v3 + ((2 : Int32))) sn <| ib (v3 + ((3 : Int32))) sn <| (s_Mod_cell (sx (ix (v3 + ((1 : Int32))))) (sx (ix (v3 + ((2 : Int32))))) (sx (ix (v3 + ((3 : Int32))))) u27.2).bind fun u28 => if u27.1 = u28.1 then
        s_Law_loop_1553 sx sn v3 u28.2
      else
        some (.inr ((0 : Int32), u28.2))
    else if ((sx (ix v3)) &&& ((63 : Int32))) = 14 then
      ib (v3 + ((1 : Int32))) sn <| ib (v3 + ((2 : Int32))) sn <| (s_Race_slack (sx (ix (v3 + ((1 : Int32))))) (sx (ix (v3 + ((2 : Int32))))) h).bind fun u29 => ib (v3 + ((1 : Int32))) sn <| ib (v3 + ((2 : Int32))) sn <| (s_Mod_slack (sx (ix (v3 + ((1 : Int32))))) (sx (ix (v3 + ((2 : Int32))))) u29.2).bind fun u30 => if u29.1 = u30.1 then
        s_Law_loop_1553 sx sn v3 u30.2
      else
        some (.inr ((0 : Int32), u30.2))
    else if ((sx (ix v3)) &&& ((63 : Int32))) = 15 then
      ib (v3 + ((1 : Int32))) sn <| (s_Race_late (sx (ix (v3 + ((1 : Int32))))) h).bind fun u31 => ib (v3 + ((1 : Int32))) sn <| (s_Mod_late (sx (ix (v3 + ((1 : Int32))))) u31.2).bind fun u32 => if u31.1 = u32.1 then
        s_Law_loop_1553 sx sn v3 u32.2
      else
        some (.inr ((0 : Int32), u32.2))
    else if ((sx (ix v3)) &&& ((63 : Int32))) = 16 then
      ib (v3 + ((1 : Int32))) sn <| ib (v3 + ((2 : Int32))) sn <| (s_Race_boat (sx (ix (v3 + ((1 : Int32))))) (sx (ix (v3 + ((2 : Int32))))) h).bind fun u33 => ib (v3 + ((1 : Int32))) sn <| ib (v3 + ((2 : Int32))) sn <| (s_Mod_boat (sx (ix (v3 + ((1 : Int32))))) (sx (ix (v3 + ((2 : Int32))))) u33.2).bind fun u34 => if u33.1 = u34.1 then
        s_Law_loop_1553 sx sn v3 u34.2
      else
        some (.inr ((0 : Int32), u34.2))
    else if ((sx (ix v3)) &&& ((63 : Int32))) = 17 then
      ib (v3 + ((1 : Int32))) sn <| ib (v3 + ((2 : Int32))) sn <| ib (v3 + ((3 : Int32))) sn <| ib (v3 + ((4 : Int32))) sn <| (s_Race_soonest (sx (ix (v3 + ((1 : Int32))))) (sx (ix (v3 + ((2 : Int32))))) (sx (ix (v3 + ((3 : Int32))))) (sx (ix (v3 + ((4 : Int32))))) h).bind fun u35 => ib (v3 + ((1 : Int32))) sn <| ib (v3 + ((2 : Int32))) sn <| ib (v3 + ((3 : Int32))) sn <| ib (v3 + ((4 : Int32))) sn <| (s_Mod_soonest (sx (ix (v3 + ((1 : Int32))))) (sx (ix (v3 + ((2 : Int32))))) (sx (ix (v3 + ((3 : Int32))))) (sx (ix (v3 + ((4 : Int32))))) u35.2).bind fun u36 => if u35.1 = u36.1 then
        s_Law_loop_1553 sx sn v3 u36.2
      else
        some (.inr ((0 : Int32), u36.2))
    else if ((sx (ix v3)) &&& ((63 : Int32))) = 18 then
      ib (v3 + ((1 : Int32))) sn <| ib (v3 + ((2 : Int32))) sn <| ib (v3 + ((3 : Int32))) sn <| ib (v3 + ((4 : Int32))) sn <| ib (v3 + ((5 : Int32))) sn <| (s_Race_way (sx (ix (v3 + ((1 : Int32))))) (sx (ix (v3 + ((2 : Int32))))) (sx (ix (v3 + ((3 : Int32))))) (sx (ix (v3 + ((4 : Int32))))) (sx (ix (v3 + ((5 : Int32))))) h).bind fun u37 => ib (v3 + ((1 : Int32))) sn <| ib (v3 + ((2 : Int32))) sn <| ib (v3 + ((3 : Int32))) sn <| ib (v3 + ((4 : Int32))) sn <| ib (v3 + ((5 : Int32))) sn <| (s_Mod_way (sx (ix (v3 + ((1 : Int32))))) (sx (ix (v3 + ((2 : Int32))))) (sx (ix (v3 + ((3 : Int32))))) (sx (ix (v3 + ((4 : Int32))))) (sx (ix (v3 + ((5 : Int32))))) u37.2).bind fun u38 => if u37.1 = u38.1 then
        s_Law_loop_1553 sx sn v3 u38.2
      else
        some (.inr ((0 : Int32), u38.2))
    else if ((sx (ix v3)) &&& ((63 : Int32))) = 19 then
      ib (v3 + ((1 : Int32))) sn <| ib (v3 + ((2 : Int32))) sn <| ib (v3 + ((3 : Int32))) sn <| ib (v3 + ((4 : Int32))) sn <| (s_Race_calmest (sx (ix (v3 + ((1 : Int32))))) (sx (ix (v3 + ((2 : Int32))))) (sx (ix (v3 + ((3 : Int32))))) (sx (ix (v3 + ((4 : Int32))))) h).bind fun u39 => ib (v3 + ((1 : Int32))) sn <| ib (v3 + ((2 : Int32))) sn <| ib (v3 + ((3 : Int32))) sn <| ib (v3 + ((4 : Int32))) sn <| (s_Mod_calmest (sx (ix (v3 + ((1 : Int32))))) (sx (ix (v3 + ((2 : Int32))))) (sx (ix (v3 + ((3 : Int32))))) (sx (ix (v3 + ((4 : Int32))))) u39.2).bind fun u40 => if u39.1 = u40.1 then
        s_Law_loop_1553 sx sn v3 u40.2
      else
        some (.inr ((0 : Int32), u40.2))
    else if ((sx (ix v3)) &&& ((63 : Int32))) = 20 then
      ib (v3 + ((1 : Int32))) sn <| ib (v3 + ((2 : Int32))) sn <| ib (v3 + ((3 : Int32))) sn <| ib (v3 + ((4 : Int32))) sn <| (s_Race_latest (sx (ix (v3 + ((1 : Int32))))) (sx (ix (v3 + ((2 : Int32))))) (sx (ix (v3 + ((3 : Int32))))) (sx (ix (v3 + ((4 : Int32))))) h).bind fun u41 => ib (v3 + ((1 : Int32))) sn <| ib (v3 + ((2 : Int32))) sn <| ib (v3 + ((3 : Int32))) sn <| ib (v3 + ((4 : Int32))) sn <| (s_Mod_latest (sx (ix (v3 + ((1 : Int32))))) (sx (ix (v3 + ((2 : Int32))))) (sx (ix (v3 + ((3 : Int32))))) (sx (ix (v3 + ((4 : Int32))))) u41.2).bind fun u42 => if u41.1 = u42.1 then
        s_Law_loop_1553 sx sn v3 u42.2
      else
        some (.inr ((0 : Int32), u42.2))
    else if ((sx (ix v3)) &&& ((63 : Int32))) = 21 then
      ib (v3 + ((1 : Int32))) sn <| (s_Race_move (sx (ix (v3 + ((1 : Int32))))) h).bind fun u43 => ib (v3 + ((1 : Int32))) sn <| (s_Mod_move (sx (ix (v3 + ((1 : Int32))))) u43.2).bind fun u44 => if u43.1 = u44.1 then
        s_Law_loop_1553 sx sn v3 u44.2
      else
        some (.inr ((0 : Int32), u44.2))
    else if ((sx (ix v3)) &&& ((63 : Int32))) = 22 then
      (s_Race_tear h).bind fun u45 => (s_Mod_tear u45.2).bind fun u46 => if u45.1 = u46.1 then
        s_Law_loop_1553 sx sn v3 u46.2
      else
        some (.inr ((0 : Int32), u46.2))
    else if ((sx (ix v3)) &&& ((63 : Int32))) = 23 then
      ib (v3 + ((1 : Int32))) sn <| ib (v3 + ((2 : Int32))) sn <| ib (v3 + ((3 : Int32))) sn <| ib (v3 + ((4 : Int32))) sn <| (s_Race_done (sx (ix (v3 + ((1 : Int32))))) (sx (ix (v3 + ((2 : Int32))))) (sx (ix (v3 + ((3 : Int32))))) (sx (ix (v3 + ((4 : Int32))))) h).bind fun u47 => ib (v3 + ((1 : Int32))) sn <| ib (v3 + ((2 : Int32))) sn <| ib (v3 + ((3 : Int32))) sn <| ib (v3 + ((4 : Int32))) sn <| (s_Mod_done (sx (ix (v3 + ((1 : Int32))))) (sx (ix (v3 + ((2 : Int32))))) (sx (ix (v3 + ((3 : Int32))))) (sx (ix (v3 + ((4 : Int32))))) u47.2).bind fun u48 => if u47.1 = u48.1 then
        s_Law_loop_1553 sx sn v3 u48.2
      else
        some (.inr ((0 : Int32), u48.2))
    else if ((sx (ix v3)) &&& ((63 : Int32))) = 24 then
      ib (v3 + ((1 : Int32))) sn <| ib (v3 + ((2 : Int32))) sn <| ib (v3 + ((3 : Int32))) sn <| (s_Race_margin (sx (ix (v3 + ((1 : Int32))))) (sx (ix (v3 + ((2 : Int32))))) (sx (ix (v3 + ((3 : Int32))))) h).bind fun u49 => ib (v3 + ((1 : Int32))) sn <| ib (v3 + ((2 : Int32))) sn <| ib (v3 + ((3 : Int32))) sn <| (s_Mod_margin (sx (ix (v3 + ((1 : Int32))))) (sx (ix (v3 + ((2 : Int32))))) (sx (ix (v3 + ((3 : Int32))))) u49.2).bind fun u50 => if u49.1 = u50.1 then
        s_Law_loop_1553 sx sn v3 u50.2
      else
        some (.inr ((0 : Int32), u50.2))
    else if ((sx (ix v3)) &&& ((63 : Int32))) = 25 then
      ib (v3 + ((1 : Int32))) sn <| ib (v3 + ((2 : Int32))) sn <| ib (v3 + ((3 : Int32))) sn <| (s_Race_ship (sx (ix (v3 + ((1 : Int32))))) (sx (ix (v3 + ((2 : Int32))))) (sx (ix (v3 + ((3 : Int32))))) h).bind fun u51 => ib (v3 + ((1 : Int32))) sn <| ib (v3 + ((2 : Int32))) sn <| ib (v3 + ((3 : Int32))) sn <| (s_Mod_ship (sx (ix (v3 + ((1 : Int32))))) (sx (ix (v3 + ((2 : Int32))))) (sx (ix (v3 + ((3 : Int32))))) u51.2).bind fun u52 => if u51.1 = u52.1 then
        s_Law_loop_1553 sx sn v3 u52.2
      else
        some (.inr ((0 : Int32), u52.2))
    else if ((sx (ix v3)) &&& ((63 : Int32))) = 26 then
      ib (v3 + ((1 : Int32))) sn <| (s_Race_order (sx (ix (v3 + ((1 : Int32))))) h).bind fun u53 => ib (v3 + ((1 : Int32))) sn <| (s_Mod_order (sx (ix (v3 + ((1 : Int32))))) u53.2).bind fun u54 => if u53.1 = u54.1 then
        s_Law_loop_1553 sx sn v3 u54.2
      else
        some (.inr ((0 : Int32), u54.2))
    else if ((sx (ix v3)) &&& ((63 : Int32))) = 27 then
      ib (v3 + ((1 : Int32))) sn <| (s_Race_begins (sx (ix (v3 + ((1 : Int32))))) h).bind fun u55 => ib (v3 + ((1 : Int32))) sn <| (s_Mod_begins (sx (ix (v3 + ((1 : Int32))))) u55.2).bind fun u56 => if u55.1 = u56.1 then
        s_Law_loop_1553 sx sn v3 u56.2
      else
        some (.inr ((0 : Int32), u56.2))
    else if ((sx (ix v3)) &&& ((63 : Int32))) = 28 then
      ib (v3 + ((1 : Int32))) sn <| (s_Race_taken (sx (ix (v3 + ((1 : Int32))))) h).bind fun u57 => ib (v3 + ((1 : Int32))) sn <| (s_Mod_taken (sx (ix (v3 + ((1 : Int32))))) u57.2).bind fun u58 => if (lg_cmp u57.1 u58.1) = 0 then
        s_Law_loop_1553 sx sn v3 u58.2
      else
        some (.inr ((0 : Int32), u58.2))
    else if ((sx (ix v3)) &&& ((63 : Int32))) = 29 then
      ib (v3 + ((1 : Int32))) sn <| ib (v3 + ((2 : Int32))) sn <| (s_Race_most (sx (ix (v3 + ((1 : Int32))))) (sx (ix (v3 + ((2 : Int32))))) h).bind fun u59 => ib (v3 + ((1 : Int32))) sn <| ib (v3 + ((2 : Int32))) sn <| (s_Mod_most (sx (ix (v3 + ((1 : Int32))))) (sx (ix (v3 + ((2 : Int32))))) u59.2).bind fun u60 => if u59.1 = u60.1 then
        s_Law_loop_1553 sx sn v3 u60.2
      else
        some (.inr ((0 : Int32), u60.2))
    else if ((sx (ix v3)) &&& ((63 : Int32))) = 30 then
      ib (v3 + ((1 : Int32))) sn <| ib (v3 + ((2 : Int32))) sn <| (s_Race_cast (sx (ix (v3 + ((1 : Int32))))) (sx (ix (v3 + ((2 : Int32))))) h).bind fun u61 => ib (v3 + ((1 : Int32))) sn <| ib (v3 + ((2 : Int32))) sn <| (s_Mod_cast (sx (ix (v3 + ((1 : Int32))))) (sx (ix (v3 + ((2 : Int32))))) u61.2).bind fun u62 => if u61.1 = u62.1 then
        s_Law_loop_1553 sx sn v3 u62.2
      else
        some (.inr ((0 : Int32), u62.2))
    else if ((sx (ix v3)) &&& ((63 : Int32))) = 31 then
      ib (v3 + ((1 : Int32))) sn <| ib (v3 + ((2 : Int32))) sn <| (s_Race_agree (sx (ix (v3 + ((1 : Int32))))) (sx (ix (v3 + ((2 : Int32))))) h).bind fun u63 => ib (v3 + ((1 : Int32))) sn <| ib (v3 + ((2 : Int32))) sn <| (s_Mod_agree (sx (ix (v3 + ((1 : Int32))))) (sx (ix (v3 + ((2 : Int32))))) u63.2).bind fun u64 => if u63.1 = u64.1 then
        s_Law_loop_1553 sx sn v3 u64.2
      else
        some (.inr ((0 : Int32), u64.2))
    else if ((sx (ix v3)) &&& ((63 : Int32))) = 32 then
      ib (v3 + ((1 : Int32))) sn <| (s_Race_tells (sx (ix (v3 + ((1 : Int32))))) h).bind fun u65 => ib (v3 + ((1 : Int32))) sn <| (s_Mod_tells (sx (ix (v3 + ((1 : Int32))))) u65.2).bind fun u66 => if u65.1 = u66.1 then
        s_Law_loop_1553 sx sn v3 u66.2
      else
        some (.inr ((0 : Int32), u66.2))
    else if ((sx (ix v3)) &&& ((63 : Int32))) = 33 then
      ib (v3 + ((1 : Int32))) sn <| ib (v3 + ((2 : Int32))) sn <| (s_Race_right (sx (ix (v3 + ((1 : Int32))))) (sx (ix (v3 + ((2 : Int32))))) h).bind fun u67 => ib (v3 + ((1 : Int32))) sn <| ib (v3 + ((2 : Int32))) sn <| (s_Mod_right (sx (ix (v3 + ((1 : Int32))))) (sx (ix (v3 + ((2 : Int32))))) u67.2).bind fun u68 => if u67.1 = u68.1 then
        s_Law_loop_1553 sx sn v3 u68.2
      else
        some (.inr ((0 : Int32), u68.2))
    else if ((sx (ix v3)) &&& ((63 : Int32))) = 34 then
      ib (v3 + ((1 : Int32))) sn <| (s_Race_mark (sx (ix (v3 + ((1 : Int32))))) h).bind fun u69 => ib (v3 + ((1 : Int32))) sn <| (s_Mod_mark (sx (ix (v3 + ((1 : Int32))))) u69.2).bind fun u70 => if u69.1 = u70.1 then
        s_Law_loop_1553 sx sn v3 u70.2
      else
        some (.inr ((0 : Int32), u70.2))
    else if ((sx (ix v3)) &&& ((63 : Int32))) = 35 then
      ib (v3 + ((1 : Int32))) sn <| ib (v3 + ((2 : Int32))) sn <| ib (v3 + ((3 : Int32))) sn <| ib (v3 + ((4 : Int32))) sn <| (s_Race_lost (sx (ix (v3 + ((1 : Int32))))) (sx (ix (v3 + ((2 : Int32))))) (sx (ix (v3 + ((3 : Int32))))) (sx (ix (v3 + ((4 : Int32))))) h).bind fun u71 => ib (v3 + ((1 : Int32))) sn <| ib (v3 + ((2 : Int32))) sn <| ib (v3 + ((3 : Int32))) sn <| ib (v3 + ((4 : Int32))) sn <| (s_Mod_lost (sx (ix (v3 + ((1 : Int32))))) (sx (ix (v3 + ((2 : Int32))))) (sx (ix (v3 + ((3 : Int32))))) (sx (ix (v3 + ((4 : Int32))))) u71.2).bind fun u72 => if u71.1 = u72.1 then
        s_Law_loop_1553 sx sn v3 u72.2
      else
        some (.inr ((0 : Int32), u72.2))
    else if ((sx (ix v3)) &&& ((63 : Int32))) = 36 then
      ib (v3 + ((1 : Int32))) sn <| (s_Race_day (sx (ix (v3 + ((1 : Int32))))) h).bind fun u73 => ib (v3 + ((1 : Int32))) sn <| (s_Mod_day (sx (ix (v3 + ((1 : Int32))))) u73.2).bind fun u74 => if u73.1 = u74.1 then
        s_Law_loop_1553 sx sn v3 u74.2
      else
        some (.inr ((0 : Int32), u74.2))
    else if ((sx (ix v3)) &&& ((63 : Int32))) = 37 then
      ib (v3 + ((1 : Int32))) sn <| (s_Race_drawn (sx (ix (v3 + ((1 : Int32))))) h).bind fun u75 => ib (v3 + ((1 : Int32))) sn <| (s_Mod_drawn (sx (ix (v3 + ((1 : Int32))))) h).bind fun u76 => if u75 = u76 then
        s_Law_loop_1553 sx sn v3 h
      else
        some (.inr ((0 : Int32), h))
    else if ((sx (ix v3)) &&& ((63 : Int32))) = 38 then
      ib (v3 + ((1 : Int32))) sn <| (s_Race_image (sx (ix (v3 + ((1 : Int32))))) h).bind fun u77 => ib (v3 + ((1 : Int32))) sn <| (s_Mod_image (sx (ix (v3 + ((1 : Int32))))) u77.2).bind fun u78 => if u77.1 = u78.1 then
        s_Law_loop_1553 sx sn v3 u78.2
      else
        some (.inr ((0 : Int32), u78.2))
    else if ((sx (ix v3)) &&& ((63 : Int32))) = 39 then
      ib (v3 + ((1 : Int32))) sn <| (s_Race_back (sx (ix (v3 + ((1 : Int32))))) h).bind fun u79 => ib (v3 + ((1 : Int32))) sn <| (s_Mod_back (sx (ix (v3 + ((1 : Int32))))) u79.2).bind fun u80 => if u79.1 = u80.1 then
        s_Law_loop_1553 sx sn v3 u80.2
      else
        some (.inr ((0 : Int32), u80.2))
    else if ((sx (ix v3)) &&& ((63 : Int32))) = 40 then
      ib (v3 + ((1 : Int32))) sn <| (s_Race_count (sx (ix (v3 + ((1 : Int32))))) h).bind fun u81 => ib (v3 + ((1 : Int32))) sn <| (s_Mod_count (sx (ix (v3 + ((1 : Int32))))) h).bind fun u82 => if u81 = u82 then
        s_Law_loop_1553 sx sn v3 h
      else
        some (.inr ((0 : Int32), h))
    else if ((sx (ix v3)) &&& ((63 : Int32))) = 41 then
      (s_Race_status h).bind fun u83 => (s_Mod_status h).bind fun u84 => if u83 = u84 then
        s_Law_loop_1553 sx sn v3 h
      else
        some (.inr ((0 : Int32), h))
    else 
      s_Law_loop_1553 sx sn v3 h
def O_Law_loop (_ : jG) (X : jX) (out : (Int32 × Hp)) : Prop := out.1 = 1 ∧ hN out.2 ≤ X.1.1 ∧ hS out.2 ≤ X.1.2
def P_Law_loop_18 (b : Nat) (G : jG) (X : jX) (q : Int32 × Hp) : Prop := J G X 18 [(0, .ref b), (1, .ref (G.1 + 0)), (2, .ref (G.1 + 84)), (3, .int q.1)] [] q.2
def O_Law_loop_18 (b : Nat) (G : jG) (X : jX) (t : ((Int32 × Hp) ⊕ (Int32 × Hp))) : Prop := Sum.elim (P_Law_loop_18 b G X) (O_Law_loop G X) t
