/-! ===== the code tables are the code ===== -/
set_option maxRecDepth 100000 in
theorem mx_chk0 : mx_chkA 0 := (by decide +kernel : (mx_tt 0).all (fun a => a.all (fun b => b.all (mx_chk 0))) = true)
set_option maxRecDepth 100000 in
theorem mx_chk1 : mx_chkA 1 := (by decide +kernel : (mx_tt 1).all (fun a => a.all (fun b => b.all (mx_chk 1))) = true)
set_option maxRecDepth 100000 in
theorem mx_chk2 : mx_chkA 2 := (by decide +kernel : (mx_tt 2).all (fun a => a.all (fun b => b.all (mx_chk 2))) = true)
set_option maxRecDepth 100000 in
theorem mx_chk3 : mx_chkA 3 := (by decide +kernel : (mx_tt 3).all (fun a => a.all (fun b => b.all (mx_chk 3))) = true)
set_option maxRecDepth 100000 in
theorem mx_chk4 : mx_chkA 4 := (by decide +kernel : (mx_tt 4).all (fun a => a.all (fun b => b.all (mx_chk 4))) = true)
set_option maxRecDepth 100000 in
theorem mx_chk5 : mx_chkA 5 := (by decide +kernel : (mx_tt 5).all (fun a => a.all (fun b => b.all (mx_chk 5))) = true)
set_option maxRecDepth 100000 in
theorem mx_chk6 : mx_chkA 6 := (by decide +kernel : (mx_tt 6).all (fun a => a.all (fun b => b.all (mx_chk 6))) = true)
set_option maxRecDepth 100000 in
theorem mx_chk7 : mx_chkA 7 := (by decide +kernel : (mx_tt 7).all (fun a => a.all (fun b => b.all (mx_chk 7))) = true)
set_option maxRecDepth 100000 in
theorem mx_chk8 : mx_chkA 8 := (by decide +kernel : (mx_tt 8).all (fun a => a.all (fun b => b.all (mx_chk 8))) = true)
set_option maxRecDepth 100000 in
theorem mx_chk9 : mx_chkA 9 := (by decide +kernel : (mx_tt 9).all (fun a => a.all (fun b => b.all (mx_chk 9))) = true)
set_option maxRecDepth 100000 in
theorem mx_chk10 : mx_chkA 10 := (by decide +kernel : (mx_tt 10).all (fun a => a.all (fun b => b.all (mx_chk 10))) = true)
set_option maxRecDepth 100000 in
theorem mx_chk11 : mx_chkA 11 := (by decide +kernel : (mx_tt 11).all (fun a => a.all (fun b => b.all (mx_chk 11))) = true)
set_option maxRecDepth 100000 in
theorem mx_chk12 : mx_chkA 12 := (by decide +kernel : (mx_tt 12).all (fun a => a.all (fun b => b.all (mx_chk 12))) = true)
set_option maxRecDepth 100000 in
theorem mx_chk13 : mx_chkA 13 := (by decide +kernel : (mx_tt 13).all (fun a => a.all (fun b => b.all (mx_chk 13))) = true)
set_option maxRecDepth 100000 in
theorem mx_chk14 : mx_chkA 14 := (by decide +kernel : (mx_tt 14).all (fun a => a.all (fun b => b.all (mx_chk 14))) = true)
set_option maxRecDepth 100000 in
theorem mx_chk15 : mx_chkA 15 := (by decide +kernel : (mx_tt 15).all (fun a => a.all (fun b => b.all (mx_chk 15))) = true)
set_option maxRecDepth 100000 in
theorem mx_chk16 : mx_chkA 16 := (by decide +kernel : (mx_tt 16).all (fun a => a.all (fun b => b.all (mx_chk 16))) = true)
set_option maxRecDepth 100000 in
theorem mx_chk17 : mx_chkA 17 := (by decide +kernel : (mx_tt 17).all (fun a => a.all (fun b => b.all (mx_chk 17))) = true)
set_option maxRecDepth 100000 in
theorem mx_chk18 : mx_chkA 18 := (by decide +kernel : (mx_tt 18).all (fun a => a.all (fun b => b.all (mx_chk 18))) = true)
set_option maxRecDepth 100000 in
theorem mx_chk19 : mx_chkA 19 := (by decide +kernel : (mx_tt 19).all (fun a => a.all (fun b => b.all (mx_chk 19))) = true)
set_option maxRecDepth 100000 in
theorem mx_chk20 : mx_chkA 20 := (by decide +kernel : (mx_tt 20).all (fun a => a.all (fun b => b.all (mx_chk 20))) = true)
set_option maxRecDepth 100000 in
theorem mx_chk21 : mx_chkA 21 := (by decide +kernel : (mx_tt 21).all (fun a => a.all (fun b => b.all (mx_chk 21))) = true)
set_option maxRecDepth 100000 in
theorem mx_chk22 : mx_chkA 22 := (by decide +kernel : (mx_tt 22).all (fun a => a.all (fun b => b.all (mx_chk 22))) = true)
set_option maxRecDepth 100000 in
theorem mx_chk23 : mx_chkA 23 := (by decide +kernel : (mx_tt 23).all (fun a => a.all (fun b => b.all (mx_chk 23))) = true)
set_option maxRecDepth 100000 in
theorem mx_chk24 : mx_chkA 24 := (by decide +kernel : (mx_tt 24).all (fun a => a.all (fun b => b.all (mx_chk 24))) = true)
set_option maxRecDepth 100000 in
theorem mx_chk25 : mx_chkA 25 := (by decide +kernel : (mx_tt 25).all (fun a => a.all (fun b => b.all (mx_chk 25))) = true)
set_option maxRecDepth 100000 in
theorem mx_chk26 : mx_chkA 26 := (by decide +kernel : (mx_tt 26).all (fun a => a.all (fun b => b.all (mx_chk 26))) = true)
set_option maxRecDepth 100000 in
theorem mx_chk27 : mx_chkA 27 := (by decide +kernel : (mx_tt 27).all (fun a => a.all (fun b => b.all (mx_chk 27))) = true)
set_option maxRecDepth 100000 in
theorem mx_chk28 : mx_chkA 28 := (by decide +kernel : (mx_tt 28).all (fun a => a.all (fun b => b.all (mx_chk 28))) = true)
set_option maxRecDepth 100000 in
theorem mx_chk29 : mx_chkA 29 := (by decide +kernel : (mx_tt 29).all (fun a => a.all (fun b => b.all (mx_chk 29))) = true)
set_option maxRecDepth 100000 in
theorem mx_chk30 : mx_chkA 30 := (by decide +kernel : (mx_tt 30).all (fun a => a.all (fun b => b.all (mx_chk 30))) = true)
set_option maxRecDepth 100000 in
theorem mx_chk31 : mx_chkA 31 := (by decide +kernel : (mx_tt 31).all (fun a => a.all (fun b => b.all (mx_chk 31))) = true)
set_option maxRecDepth 100000 in
theorem mx_chk32 : mx_chkA 32 := (by decide +kernel : (mx_tt 32).all (fun a => a.all (fun b => b.all (mx_chk 32))) = true)
set_option maxRecDepth 100000 in
theorem mx_chk33 : mx_chkA 33 := (by decide +kernel : (mx_tt 33).all (fun a => a.all (fun b => b.all (mx_chk 33))) = true)
set_option maxRecDepth 100000 in
theorem mx_chk34 : mx_chkA 34 := (by decide +kernel : (mx_tt 34).all (fun a => a.all (fun b => b.all (mx_chk 34))) = true)
set_option maxRecDepth 100000 in
theorem mx_chk35 : mx_chkA 35 := (by decide +kernel : (mx_tt 35).all (fun a => a.all (fun b => b.all (mx_chk 35))) = true)
set_option maxRecDepth 100000 in
theorem mx_chk36 : mx_chkA 36 := (by decide +kernel : (mx_tt 36).all (fun a => a.all (fun b => b.all (mx_chk 36))) = true)
set_option maxRecDepth 100000 in
theorem mx_chk37 : mx_chkA 37 := (by decide +kernel : (mx_tt 37).all (fun a => a.all (fun b => b.all (mx_chk 37))) = true)
set_option maxRecDepth 100000 in
theorem mx_chk38 : mx_chkA 38 := (by decide +kernel : (mx_tt 38).all (fun a => a.all (fun b => b.all (mx_chk 38))) = true)
set_option maxRecDepth 100000 in
theorem mx_chk39 : mx_chkA 39 := (by decide +kernel : (mx_tt 39).all (fun a => a.all (fun b => b.all (mx_chk 39))) = true)
set_option maxRecDepth 100000 in
theorem mx_chk40 : mx_chkA 40 := (by decide +kernel : (mx_tt 40).all (fun a => a.all (fun b => b.all (mx_chk 40))) = true)
set_option maxRecDepth 100000 in
theorem mx_chk41 : mx_chkA 41 := (by decide +kernel : (mx_tt 41).all (fun a => a.all (fun b => b.all (mx_chk 41))) = true)
set_option maxRecDepth 100000 in
theorem mx_chk42 : mx_chkA 42 := (by decide +kernel : (mx_tt 42).all (fun a => a.all (fun b => b.all (mx_chk 42))) = true)
set_option maxRecDepth 100000 in
theorem mx_chk43 : mx_chkA 43 := (by decide +kernel : (mx_tt 43).all (fun a => a.all (fun b => b.all (mx_chk 43))) = true)
set_option maxRecDepth 100000 in
theorem mx_chk44 : mx_chkA 44 := (by decide +kernel : (mx_tt 44).all (fun a => a.all (fun b => b.all (mx_chk 44))) = true)
set_option maxRecDepth 100000 in
theorem mx_chk45 : mx_chkA 45 := (by decide +kernel : (mx_tt 45).all (fun a => a.all (fun b => b.all (mx_chk 45))) = true)
set_option maxRecDepth 100000 in
theorem mx_chk46 : mx_chkA 46 := (by decide +kernel : (mx_tt 46).all (fun a => a.all (fun b => b.all (mx_chk 46))) = true)
set_option maxRecDepth 100000 in
theorem mx_chk47 : mx_chkA 47 := (by decide +kernel : (mx_tt 47).all (fun a => a.all (fun b => b.all (mx_chk 47))) = true)
set_option maxRecDepth 100000 in
theorem mx_chk48 : mx_chkA 48 := (by decide +kernel : (mx_tt 48).all (fun a => a.all (fun b => b.all (mx_chk 48))) = true)
set_option maxRecDepth 100000 in
theorem mx_chk49 : mx_chkA 49 := (by decide +kernel : (mx_tt 49).all (fun a => a.all (fun b => b.all (mx_chk 49))) = true)
set_option maxRecDepth 100000 in
theorem mx_chk50 : mx_chkA 50 := (by decide +kernel : (mx_tt 50).all (fun a => a.all (fun b => b.all (mx_chk 50))) = true)
set_option maxRecDepth 100000 in
theorem mx_chk51 : mx_chkA 51 := (by decide +kernel : (mx_tt 51).all (fun a => a.all (fun b => b.all (mx_chk 51))) = true)
set_option maxRecDepth 100000 in
theorem mx_chk52 : mx_chkA 52 := (by decide +kernel : (mx_tt 52).all (fun a => a.all (fun b => b.all (mx_chk 52))) = true)
set_option maxRecDepth 100000 in
theorem mx_chk53 : mx_chkA 53 := (by decide +kernel : (mx_tt 53).all (fun a => a.all (fun b => b.all (mx_chk 53))) = true)
set_option maxRecDepth 100000 in
theorem mx_chk54 : mx_chkA 54 := (by decide +kernel : (mx_tt 54).all (fun a => a.all (fun b => b.all (mx_chk 54))) = true)
set_option maxRecDepth 100000 in
theorem mx_chk55 : mx_chkA 55 := (by decide +kernel : (mx_tt 55).all (fun a => a.all (fun b => b.all (mx_chk 55))) = true)
set_option maxRecDepth 100000 in
theorem mx_chk56 : mx_chkA 56 := (by decide +kernel : (mx_tt 56).all (fun a => a.all (fun b => b.all (mx_chk 56))) = true)
set_option maxRecDepth 100000 in
theorem mx_chk57 : mx_chkA 57 := (by decide +kernel : (mx_tt 57).all (fun a => a.all (fun b => b.all (mx_chk 57))) = true)
set_option maxRecDepth 100000 in
theorem mx_chk58 : mx_chkA 58 := (by decide +kernel : (mx_tt 58).all (fun a => a.all (fun b => b.all (mx_chk 58))) = true)
set_option maxRecDepth 100000 in
theorem mx_chk59 : mx_chkA 59 := (by decide +kernel : (mx_tt 59).all (fun a => a.all (fun b => b.all (mx_chk 59))) = true)
set_option maxRecDepth 100000 in
theorem mx_chk60 : mx_chkA 60 := (by decide +kernel : (mx_tt 60).all (fun a => a.all (fun b => b.all (mx_chk 60))) = true)
set_option maxRecDepth 100000 in
theorem mx_chk61 : mx_chkA 61 := (by decide +kernel : (mx_tt 61).all (fun a => a.all (fun b => b.all (mx_chk 61))) = true)
set_option maxRecDepth 100000 in
theorem mx_chk62 : mx_chkA 62 := (by decide +kernel : (mx_tt 62).all (fun a => a.all (fun b => b.all (mx_chk 62))) = true)
set_option maxRecDepth 100000 in
theorem mx_chk63 : mx_chkA 63 := (by decide +kernel : (mx_tt 63).all (fun a => a.all (fun b => b.all (mx_chk 63))) = true)
set_option maxRecDepth 100000 in
theorem mx_chk64 : mx_chkA 64 := (by decide +kernel : (mx_tt 64).all (fun a => a.all (fun b => b.all (mx_chk 64))) = true)
set_option maxRecDepth 100000 in
theorem mx_chk65 : mx_chkA 65 := (by decide +kernel : (mx_tt 65).all (fun a => a.all (fun b => b.all (mx_chk 65))) = true)
set_option maxRecDepth 100000 in
theorem mx_chk66 : mx_chkA 66 := (by decide +kernel : (mx_tt 66).all (fun a => a.all (fun b => b.all (mx_chk 66))) = true)
set_option maxRecDepth 100000 in
theorem mx_chk67 : mx_chkA 67 := (by decide +kernel : (mx_tt 67).all (fun a => a.all (fun b => b.all (mx_chk 67))) = true)
set_option maxRecDepth 100000 in
theorem mx_chk68 : mx_chkA 68 := (by decide +kernel : (mx_tt 68).all (fun a => a.all (fun b => b.all (mx_chk 68))) = true)
set_option maxRecDepth 100000 in
theorem mx_chk69 : mx_chkA 69 := (by decide +kernel : (mx_tt 69).all (fun a => a.all (fun b => b.all (mx_chk 69))) = true)
set_option maxRecDepth 100000 in
theorem mx_chk70 : mx_chkA 70 := (by decide +kernel : (mx_tt 70).all (fun a => a.all (fun b => b.all (mx_chk 70))) = true)
set_option maxRecDepth 100000 in
theorem mx_chk71 : mx_chkA 71 := (by decide +kernel : (mx_tt 71).all (fun a => a.all (fun b => b.all (mx_chk 71))) = true)
set_option maxRecDepth 100000 in
theorem mx_chk72 : mx_chkA 72 := (by decide +kernel : (mx_tt 72).all (fun a => a.all (fun b => b.all (mx_chk 72))) = true)
set_option maxRecDepth 100000 in
theorem mx_chk73 : mx_chkA 73 := (by decide +kernel : (mx_tt 73).all (fun a => a.all (fun b => b.all (mx_chk 73))) = true)
set_option maxRecDepth 100000 in
theorem mx_chk74 : mx_chkA 74 := (by decide +kernel : (mx_tt 74).all (fun a => a.all (fun b => b.all (mx_chk 74))) = true)
set_option maxRecDepth 100000 in
theorem mx_chk75 : mx_chkA 75 := (by decide +kernel : (mx_tt 75).all (fun a => a.all (fun b => b.all (mx_chk 75))) = true)
set_option maxRecDepth 100000 in
theorem mx_chk76 : mx_chkA 76 := (by decide +kernel : (mx_tt 76).all (fun a => a.all (fun b => b.all (mx_chk 76))) = true)
set_option maxRecDepth 100000 in
theorem mx_chk77 : mx_chkA 77 := (by decide +kernel : (mx_tt 77).all (fun a => a.all (fun b => b.all (mx_chk 77))) = true)
set_option maxRecDepth 100000 in
theorem mx_chk78 : mx_chkA 78 := (by decide +kernel : (mx_tt 78).all (fun a => a.all (fun b => b.all (mx_chk 78))) = true)
set_option maxRecDepth 100000 in
theorem mx_chk79 : mx_chkA 79 := (by decide +kernel : (mx_tt 79).all (fun a => a.all (fun b => b.all (mx_chk 79))) = true)
set_option maxRecDepth 100000 in
theorem mx_chk80 : mx_chkA 80 := (by decide +kernel : (mx_tt 80).all (fun a => a.all (fun b => b.all (mx_chk 80))) = true)
set_option maxRecDepth 100000 in
theorem mx_chk81 : mx_chkA 81 := (by decide +kernel : (mx_tt 81).all (fun a => a.all (fun b => b.all (mx_chk 81))) = true)
set_option maxRecDepth 100000 in
theorem mx_chk82 : mx_chkA 82 := (by decide +kernel : (mx_tt 82).all (fun a => a.all (fun b => b.all (mx_chk 82))) = true)
set_option maxRecDepth 100000 in
theorem mx_chk83 : mx_chkA 83 := (by decide +kernel : (mx_tt 83).all (fun a => a.all (fun b => b.all (mx_chk 83))) = true)
set_option maxRecDepth 100000 in
theorem mx_chk84 : mx_chkA 84 := (by decide +kernel : (mx_tt 84).all (fun a => a.all (fun b => b.all (mx_chk 84))) = true)
set_option maxRecDepth 100000 in
theorem mx_chk85 : mx_chkA 85 := (by decide +kernel : (mx_tt 85).all (fun a => a.all (fun b => b.all (mx_chk 85))) = true)
set_option maxRecDepth 100000 in
theorem mx_chk86 : mx_chkA 86 := (by decide +kernel : (mx_tt 86).all (fun a => a.all (fun b => b.all (mx_chk 86))) = true)
set_option maxRecDepth 100000 in
theorem mx_chk87 : mx_chkA 87 := (by decide +kernel : (mx_tt 87).all (fun a => a.all (fun b => b.all (mx_chk 87))) = true)
set_option maxRecDepth 100000 in
theorem mx_chk88 : mx_chkA 88 := (by decide +kernel : (mx_tt 88).all (fun a => a.all (fun b => b.all (mx_chk 88))) = true)
set_option maxRecDepth 100000 in
theorem mx_chk89 : mx_chkA 89 := (by decide +kernel : (mx_tt 89).all (fun a => a.all (fun b => b.all (mx_chk 89))) = true)
set_option maxRecDepth 100000 in
theorem mx_chk90 : mx_chkA 90 := (by decide +kernel : (mx_tt 90).all (fun a => a.all (fun b => b.all (mx_chk 90))) = true)
set_option maxRecDepth 100000 in
theorem mx_chk91 : mx_chkA 91 := (by decide +kernel : (mx_tt 91).all (fun a => a.all (fun b => b.all (mx_chk 91))) = true)
set_option maxRecDepth 100000 in
theorem mx_chk92 : mx_chkA 92 := (by decide +kernel : (mx_tt 92).all (fun a => a.all (fun b => b.all (mx_chk 92))) = true)
set_option maxRecDepth 100000 in
theorem mx_chk93 : mx_chkA 93 := (by decide +kernel : (mx_tt 93).all (fun a => a.all (fun b => b.all (mx_chk 93))) = true)
set_option maxRecDepth 100000 in
theorem mx_chk94 : mx_chkA 94 := (by decide +kernel : (mx_tt 94).all (fun a => a.all (fun b => b.all (mx_chk 94))) = true)
set_option maxRecDepth 100000 in
theorem mx_chk95 : mx_chkA 95 := (by decide +kernel : (mx_tt 95).all (fun a => a.all (fun b => b.all (mx_chk 95))) = true)
set_option maxRecDepth 100000 in
theorem mx_chk96 : mx_chkA 96 := (by decide +kernel : (mx_tt 96).all (fun a => a.all (fun b => b.all (mx_chk 96))) = true)
set_option maxRecDepth 100000 in
theorem mx_chk97 : mx_chkA 97 := (by decide +kernel : (mx_tt 97).all (fun a => a.all (fun b => b.all (mx_chk 97))) = true)
set_option maxRecDepth 100000 in
theorem mx_chk98 : mx_chkA 98 := (by decide +kernel : (mx_tt 98).all (fun a => a.all (fun b => b.all (mx_chk 98))) = true)
set_option maxRecDepth 100000 in
theorem mx_chk99 : mx_chkA 99 := (by decide +kernel : (mx_tt 99).all (fun a => a.all (fun b => b.all (mx_chk 99))) = true)
set_option maxRecDepth 100000 in
theorem mx_chk100 : mx_chkA 100 := (by decide +kernel : (mx_tt 100).all (fun a => a.all (fun b => b.all (mx_chk 100))) = true)
set_option maxRecDepth 100000 in
theorem mx_chk101 : mx_chkA 101 := (by decide +kernel : (mx_tt 101).all (fun a => a.all (fun b => b.all (mx_chk 101))) = true)
set_option maxRecDepth 100000 in
theorem mx_chk102 : mx_chkA 102 := (by decide +kernel : (mx_tt 102).all (fun a => a.all (fun b => b.all (mx_chk 102))) = true)
set_option maxRecDepth 100000 in
theorem mx_chk103 : mx_chkA 103 := (by decide +kernel : (mx_tt 103).all (fun a => a.all (fun b => b.all (mx_chk 103))) = true)
set_option maxRecDepth 100000 in
theorem mx_chk104 : mx_chkA 104 := (by decide +kernel : (mx_tt 104).all (fun a => a.all (fun b => b.all (mx_chk 104))) = true)
set_option maxRecDepth 100000 in
theorem mx_chk105 : mx_chkA 105 := (by decide +kernel : (mx_tt 105).all (fun a => a.all (fun b => b.all (mx_chk 105))) = true)
set_option maxRecDepth 100000 in
theorem mx_chk106 : mx_chkA 106 := (by decide +kernel : (mx_tt 106).all (fun a => a.all (fun b => b.all (mx_chk 106))) = true)
set_option maxRecDepth 100000 in
theorem mx_chk107 : mx_chkA 107 := (by decide +kernel : (mx_tt 107).all (fun a => a.all (fun b => b.all (mx_chk 107))) = true)
set_option maxRecDepth 100000 in
theorem mx_chk108 : mx_chkA 108 := (by decide +kernel : (mx_tt 108).all (fun a => a.all (fun b => b.all (mx_chk 108))) = true)
set_option maxRecDepth 100000 in
theorem mx_chk109 : mx_chkA 109 := (by decide +kernel : (mx_tt 109).all (fun a => a.all (fun b => b.all (mx_chk 109))) = true)
set_option maxRecDepth 100000 in
theorem mx_chk110 : mx_chkA 110 := (by decide +kernel : (mx_tt 110).all (fun a => a.all (fun b => b.all (mx_chk 110))) = true)
set_option maxRecDepth 100000 in
theorem mx_chk111 : mx_chkA 111 := (by decide +kernel : (mx_tt 111).all (fun a => a.all (fun b => b.all (mx_chk 111))) = true)
set_option maxRecDepth 100000 in
theorem mx_chk112 : mx_chkA 112 := (by decide +kernel : (mx_tt 112).all (fun a => a.all (fun b => b.all (mx_chk 112))) = true)
set_option maxRecDepth 100000 in
theorem mx_chk113 : mx_chkA 113 := (by decide +kernel : (mx_tt 113).all (fun a => a.all (fun b => b.all (mx_chk 113))) = true)
set_option maxRecDepth 100000 in
theorem mx_chk114 : mx_chkA 114 := (by decide +kernel : (mx_tt 114).all (fun a => a.all (fun b => b.all (mx_chk 114))) = true)
set_option maxRecDepth 100000 in
theorem mx_chk115 : mx_chkA 115 := (by decide +kernel : (mx_tt 115).all (fun a => a.all (fun b => b.all (mx_chk 115))) = true)
set_option maxRecDepth 100000 in
theorem mx_chk116 : mx_chkA 116 := (by decide +kernel : (mx_tt 116).all (fun a => a.all (fun b => b.all (mx_chk 116))) = true)
set_option maxRecDepth 100000 in
theorem mx_chk117 : mx_chkA 117 := (by decide +kernel : (mx_tt 117).all (fun a => a.all (fun b => b.all (mx_chk 117))) = true)
set_option maxRecDepth 100000 in
theorem mx_chk118 : mx_chkA 118 := (by decide +kernel : (mx_tt 118).all (fun a => a.all (fun b => b.all (mx_chk 118))) = true)
set_option maxRecDepth 100000 in
theorem mx_chk119 : mx_chkA 119 := (by decide +kernel : (mx_tt 119).all (fun a => a.all (fun b => b.all (mx_chk 119))) = true)
set_option maxRecDepth 100000 in
theorem mx_chk120 : mx_chkA 120 := (by decide +kernel : (mx_tt 120).all (fun a => a.all (fun b => b.all (mx_chk 120))) = true)
set_option maxRecDepth 100000 in
theorem mx_chk121 : mx_chkA 121 := (by decide +kernel : (mx_tt 121).all (fun a => a.all (fun b => b.all (mx_chk 121))) = true)
set_option maxRecDepth 100000 in
theorem mx_chk122 : mx_chkA 122 := (by decide +kernel : (mx_tt 122).all (fun a => a.all (fun b => b.all (mx_chk 122))) = true)
set_option maxRecDepth 100000 in
theorem mx_chk123 : mx_chkA 123 := (by decide +kernel : (mx_tt 123).all (fun a => a.all (fun b => b.all (mx_chk 123))) = true)
set_option maxRecDepth 100000 in
theorem mx_chk124 : mx_chkA 124 := (by decide +kernel : (mx_tt 124).all (fun a => a.all (fun b => b.all (mx_chk 124))) = true)
set_option maxRecDepth 100000 in
theorem mx_chk125 : mx_chkA 125 := (by decide +kernel : (mx_tt 125).all (fun a => a.all (fun b => b.all (mx_chk 125))) = true)
set_option maxRecDepth 100000 in
theorem mx_chk126 : mx_chkA 126 := (by decide +kernel : (mx_tt 126).all (fun a => a.all (fun b => b.all (mx_chk 126))) = true)
set_option maxRecDepth 100000 in
theorem mx_chk127 : mx_chkA 127 := (by decide +kernel : (mx_tt 127).all (fun a => a.all (fun b => b.all (mx_chk 127))) = true)
set_option maxRecDepth 100000 in
theorem mx_chk128 : mx_chkA 128 := (by decide +kernel : (mx_tt 128).all (fun a => a.all (fun b => b.all (mx_chk 128))) = true)
set_option maxRecDepth 100000 in
theorem mx_chk129 : mx_chkA 129 := (by decide +kernel : (mx_tt 129).all (fun a => a.all (fun b => b.all (mx_chk 129))) = true)
set_option maxRecDepth 100000 in
theorem mx_chk130 : mx_chkA 130 := (by decide +kernel : (mx_tt 130).all (fun a => a.all (fun b => b.all (mx_chk 130))) = true)
set_option maxRecDepth 100000 in
theorem mx_chk131 : mx_chkA 131 := (by decide +kernel : (mx_tt 131).all (fun a => a.all (fun b => b.all (mx_chk 131))) = true)
set_option maxRecDepth 100000 in
theorem mx_chk132 : mx_chkA 132 := (by decide +kernel : (mx_tt 132).all (fun a => a.all (fun b => b.all (mx_chk 132))) = true)
set_option maxRecDepth 100000 in
theorem mx_chk133 : mx_chkA 133 := (by decide +kernel : (mx_tt 133).all (fun a => a.all (fun b => b.all (mx_chk 133))) = true)
set_option maxRecDepth 100000 in
theorem mx_chk134 : mx_chkA 134 := (by decide +kernel : (mx_tt 134).all (fun a => a.all (fun b => b.all (mx_chk 134))) = true)
set_option maxRecDepth 100000 in
theorem mx_chk135 : mx_chkA 135 := (by decide +kernel : (mx_tt 135).all (fun a => a.all (fun b => b.all (mx_chk 135))) = true)
set_option maxRecDepth 100000 in
theorem mx_chk136 : mx_chkA 136 := (by decide +kernel : (mx_tt 136).all (fun a => a.all (fun b => b.all (mx_chk 136))) = true)
set_option maxRecDepth 100000 in
theorem mx_chk137 : mx_chkA 137 := (by decide +kernel : (mx_tt 137).all (fun a => a.all (fun b => b.all (mx_chk 137))) = true)
set_option maxRecDepth 100000 in
theorem mx_chk138 : mx_chkA 138 := (by decide +kernel : (mx_tt 138).all (fun a => a.all (fun b => b.all (mx_chk 138))) = true)
set_option maxRecDepth 100000 in
theorem mx_chk139 : mx_chkA 139 := (by decide +kernel : (mx_tt 139).all (fun a => a.all (fun b => b.all (mx_chk 139))) = true)
set_option maxRecDepth 100000 in
theorem mx_chk140 : mx_chkA 140 := (by decide +kernel : (mx_tt 140).all (fun a => a.all (fun b => b.all (mx_chk 140))) = true)
set_option maxRecDepth 100000 in
theorem mx_chk141 : mx_chkA 141 := (by decide +kernel : (mx_tt 141).all (fun a => a.all (fun b => b.all (mx_chk 141))) = true)
set_option maxRecDepth 100000 in
theorem mx_chk142 : mx_chkA 142 := (by decide +kernel : (mx_tt 142).all (fun a => a.all (fun b => b.all (mx_chk 142))) = true)
set_option maxRecDepth 100000 in
theorem mx_chk143 : mx_chkA 143 := (by decide +kernel : (mx_tt 143).all (fun a => a.all (fun b => b.all (mx_chk 143))) = true)
set_option maxRecDepth 100000 in
theorem mx_chk144 : mx_chkA 144 := (by decide +kernel : (mx_tt 144).all (fun a => a.all (fun b => b.all (mx_chk 144))) = true)
set_option maxRecDepth 100000 in
theorem mx_chk145 : mx_chkA 145 := (by decide +kernel : (mx_tt 145).all (fun a => a.all (fun b => b.all (mx_chk 145))) = true)
set_option maxRecDepth 100000 in
theorem mx_chk146 : mx_chkA 146 := (by decide +kernel : (mx_tt 146).all (fun a => a.all (fun b => b.all (mx_chk 146))) = true)
set_option maxRecDepth 100000 in
theorem mx_chk147 : mx_chkA 147 := (by decide +kernel : (mx_tt 147).all (fun a => a.all (fun b => b.all (mx_chk 147))) = true)
set_option maxRecDepth 100000 in
theorem mx_chk148 : mx_chkA 148 := (by decide +kernel : (mx_tt 148).all (fun a => a.all (fun b => b.all (mx_chk 148))) = true)
set_option maxRecDepth 100000 in
theorem mx_chk149 : mx_chkA 149 := (by decide +kernel : (mx_tt 149).all (fun a => a.all (fun b => b.all (mx_chk 149))) = true)
set_option maxRecDepth 100000 in
theorem mx_chk150 : mx_chkA 150 := (by decide +kernel : (mx_tt 150).all (fun a => a.all (fun b => b.all (mx_chk 150))) = true)
set_option maxRecDepth 100000 in
theorem mx_chk151 : mx_chkA 151 := (by decide +kernel : (mx_tt 151).all (fun a => a.all (fun b => b.all (mx_chk 151))) = true)
set_option maxRecDepth 100000 in
theorem mx_chk152 : mx_chkA 152 := (by decide +kernel : (mx_tt 152).all (fun a => a.all (fun b => b.all (mx_chk 152))) = true)
set_option maxRecDepth 100000 in
theorem mx_chk153 : mx_chkA 153 := (by decide +kernel : (mx_tt 153).all (fun a => a.all (fun b => b.all (mx_chk 153))) = true)
set_option maxRecDepth 100000 in
theorem mx_chk154 : mx_chkA 154 := (by decide +kernel : (mx_tt 154).all (fun a => a.all (fun b => b.all (mx_chk 154))) = true)
set_option maxRecDepth 100000 in
theorem mx_chk155 : mx_chkA 155 := (by decide +kernel : (mx_tt 155).all (fun a => a.all (fun b => b.all (mx_chk 155))) = true)
set_option maxRecDepth 100000 in
theorem mx_chk156 : mx_chkA 156 := (by decide +kernel : (mx_tt 156).all (fun a => a.all (fun b => b.all (mx_chk 156))) = true)
set_option maxRecDepth 100000 in
theorem mx_chk157 : mx_chkA 157 := (by decide +kernel : (mx_tt 157).all (fun a => a.all (fun b => b.all (mx_chk 157))) = true)
set_option maxRecDepth 100000 in
theorem mx_chk158 : mx_chkA 158 := (by decide +kernel : (mx_tt 158).all (fun a => a.all (fun b => b.all (mx_chk 158))) = true)
set_option maxRecDepth 100000 in
theorem mx_chk159 : mx_chkA 159 := (by decide +kernel : (mx_tt 159).all (fun a => a.all (fun b => b.all (mx_chk 159))) = true)
set_option maxRecDepth 100000 in
theorem mx_chk160 : mx_chkA 160 := (by decide +kernel : (mx_tt 160).all (fun a => a.all (fun b => b.all (mx_chk 160))) = true)
set_option maxRecDepth 100000 in
theorem mx_chk161 : mx_chkA 161 := (by decide +kernel : (mx_tt 161).all (fun a => a.all (fun b => b.all (mx_chk 161))) = true)
set_option maxRecDepth 100000 in
theorem mx_chk162 : mx_chkA 162 := (by decide +kernel : (mx_tt 162).all (fun a => a.all (fun b => b.all (mx_chk 162))) = true)
set_option maxRecDepth 100000 in
theorem mx_chk163 : mx_chkA 163 := (by decide +kernel : (mx_tt 163).all (fun a => a.all (fun b => b.all (mx_chk 163))) = true)
set_option maxRecDepth 100000 in
theorem mx_chk164 : mx_chkA 164 := (by decide +kernel : (mx_tt 164).all (fun a => a.all (fun b => b.all (mx_chk 164))) = true)
set_option maxRecDepth 100000 in
theorem mx_chk165 : mx_chkA 165 := (by decide +kernel : (mx_tt 165).all (fun a => a.all (fun b => b.all (mx_chk 165))) = true)
set_option maxRecDepth 100000 in
theorem mx_chk166 : mx_chkA 166 := (by decide +kernel : (mx_tt 166).all (fun a => a.all (fun b => b.all (mx_chk 166))) = true)
set_option maxRecDepth 100000 in
theorem mx_chk167 : mx_chkA 167 := (by decide +kernel : (mx_tt 167).all (fun a => a.all (fun b => b.all (mx_chk 167))) = true)
set_option maxRecDepth 100000 in
theorem mx_chk168 : mx_chkA 168 := (by decide +kernel : (mx_tt 168).all (fun a => a.all (fun b => b.all (mx_chk 168))) = true)
set_option maxRecDepth 100000 in
theorem mx_chk169 : mx_chkA 169 := (by decide +kernel : (mx_tt 169).all (fun a => a.all (fun b => b.all (mx_chk 169))) = true)
set_option maxRecDepth 100000 in
theorem mx_chk170 : mx_chkA 170 := (by decide +kernel : (mx_tt 170).all (fun a => a.all (fun b => b.all (mx_chk 170))) = true)
set_option maxRecDepth 100000 in
theorem mx_chk171 : mx_chkA 171 := (by decide +kernel : (mx_tt 171).all (fun a => a.all (fun b => b.all (mx_chk 171))) = true)
set_option maxRecDepth 100000 in
theorem mx_chk172 : mx_chkA 172 := (by decide +kernel : (mx_tt 172).all (fun a => a.all (fun b => b.all (mx_chk 172))) = true)
set_option maxRecDepth 100000 in
theorem mx_chk173 : mx_chkA 173 := (by decide +kernel : (mx_tt 173).all (fun a => a.all (fun b => b.all (mx_chk 173))) = true)
set_option maxRecDepth 100000 in
theorem mx_chk174 : mx_chkA 174 := (by decide +kernel : (mx_tt 174).all (fun a => a.all (fun b => b.all (mx_chk 174))) = true)
set_option maxRecDepth 100000 in
theorem mx_chk175 : mx_chkA 175 := (by decide +kernel : (mx_tt 175).all (fun a => a.all (fun b => b.all (mx_chk 175))) = true)
set_option maxRecDepth 100000 in
theorem mx_chk176 : mx_chkA 176 := (by decide +kernel : (mx_tt 176).all (fun a => a.all (fun b => b.all (mx_chk 176))) = true)
set_option maxRecDepth 100000 in
theorem mx_chk177 : mx_chkA 177 := (by decide +kernel : (mx_tt 177).all (fun a => a.all (fun b => b.all (mx_chk 177))) = true)
set_option maxRecDepth 100000 in
theorem mx_chk178 : mx_chkA 178 := (by decide +kernel : (mx_tt 178).all (fun a => a.all (fun b => b.all (mx_chk 178))) = true)
set_option maxRecDepth 100000 in
theorem mx_chk179 : mx_chkA 179 := (by decide +kernel : (mx_tt 179).all (fun a => a.all (fun b => b.all (mx_chk 179))) = true)
set_option maxRecDepth 100000 in
theorem mx_chk180 : mx_chkA 180 := (by decide +kernel : (mx_tt 180).all (fun a => a.all (fun b => b.all (mx_chk 180))) = true)
set_option maxRecDepth 100000 in
theorem mx_chk181 : mx_chkA 181 := (by decide +kernel : (mx_tt 181).all (fun a => a.all (fun b => b.all (mx_chk 181))) = true)
set_option maxRecDepth 100000 in
theorem mx_chk182 : mx_chkA 182 := (by decide +kernel : (mx_tt 182).all (fun a => a.all (fun b => b.all (mx_chk 182))) = true)
set_option maxRecDepth 100000 in
theorem mx_chk183 : mx_chkA 183 := (by decide +kernel : (mx_tt 183).all (fun a => a.all (fun b => b.all (mx_chk 183))) = true)
set_option maxRecDepth 100000 in
theorem mx_chk184 : mx_chkA 184 := (by decide +kernel : (mx_tt 184).all (fun a => a.all (fun b => b.all (mx_chk 184))) = true)
set_option maxRecDepth 100000 in
theorem mx_chk185 : mx_chkA 185 := (by decide +kernel : (mx_tt 185).all (fun a => a.all (fun b => b.all (mx_chk 185))) = true)
set_option maxRecDepth 100000 in
theorem mx_chk186 : mx_chkA 186 := (by decide +kernel : (mx_tt 186).all (fun a => a.all (fun b => b.all (mx_chk 186))) = true)
set_option maxRecDepth 100000 in
theorem mx_chk187 : mx_chkA 187 := (by decide +kernel : (mx_tt 187).all (fun a => a.all (fun b => b.all (mx_chk 187))) = true)
set_option maxRecDepth 100000 in
theorem mx_chk188 : mx_chkA 188 := (by decide +kernel : (mx_tt 188).all (fun a => a.all (fun b => b.all (mx_chk 188))) = true)
set_option maxRecDepth 100000 in
theorem mx_chk189 : mx_chkA 189 := (by decide +kernel : (mx_tt 189).all (fun a => a.all (fun b => b.all (mx_chk 189))) = true)
set_option maxRecDepth 100000 in
theorem mx_chk190 : mx_chkA 190 := (by decide +kernel : (mx_tt 190).all (fun a => a.all (fun b => b.all (mx_chk 190))) = true)
set_option maxRecDepth 100000 in
theorem mx_chk191 : mx_chkA 191 := (by decide +kernel : (mx_tt 191).all (fun a => a.all (fun b => b.all (mx_chk 191))) = true)
set_option maxRecDepth 100000 in
theorem mx_chk192 : mx_chkA 192 := (by decide +kernel : (mx_tt 192).all (fun a => a.all (fun b => b.all (mx_chk 192))) = true)
set_option maxRecDepth 100000 in
theorem mx_chk193 : mx_chkA 193 := (by decide +kernel : (mx_tt 193).all (fun a => a.all (fun b => b.all (mx_chk 193))) = true)
set_option maxRecDepth 100000 in
theorem mx_chk194 : mx_chkA 194 := (by decide +kernel : (mx_tt 194).all (fun a => a.all (fun b => b.all (mx_chk 194))) = true)
set_option maxRecDepth 100000 in
theorem mx_chk195 : mx_chkA 195 := (by decide +kernel : (mx_tt 195).all (fun a => a.all (fun b => b.all (mx_chk 195))) = true)
set_option maxRecDepth 100000 in
theorem mx_chk196 : mx_chkA 196 := (by decide +kernel : (mx_tt 196).all (fun a => a.all (fun b => b.all (mx_chk 196))) = true)
set_option maxRecDepth 100000 in
theorem mx_chk197 : mx_chkA 197 := (by decide +kernel : (mx_tt 197).all (fun a => a.all (fun b => b.all (mx_chk 197))) = true)
set_option maxRecDepth 100000 in
theorem mx_chk198 : mx_chkA 198 := (by decide +kernel : (mx_tt 198).all (fun a => a.all (fun b => b.all (mx_chk 198))) = true)
set_option maxRecDepth 100000 in
theorem mx_chk199 : mx_chkA 199 := (by decide +kernel : (mx_tt 199).all (fun a => a.all (fun b => b.all (mx_chk 199))) = true)
set_option maxRecDepth 100000 in
theorem mx_chk200 : mx_chkA 200 := (by decide +kernel : (mx_tt 200).all (fun a => a.all (fun b => b.all (mx_chk 200))) = true)
set_option maxRecDepth 100000 in
theorem mx_chk201 : mx_chkA 201 := (by decide +kernel : (mx_tt 201).all (fun a => a.all (fun b => b.all (mx_chk 201))) = true)
set_option maxRecDepth 100000 in
theorem mx_chk202 : mx_chkA 202 := (by decide +kernel : (mx_tt 202).all (fun a => a.all (fun b => b.all (mx_chk 202))) = true)
set_option maxRecDepth 100000 in
theorem mx_chk203 : mx_chkA 203 := (by decide +kernel : (mx_tt 203).all (fun a => a.all (fun b => b.all (mx_chk 203))) = true)
set_option maxRecDepth 100000 in
theorem mx_chk204 : mx_chkA 204 := (by decide +kernel : (mx_tt 204).all (fun a => a.all (fun b => b.all (mx_chk 204))) = true)
set_option maxRecDepth 100000 in
theorem mx_chk205 : mx_chkA 205 := (by decide +kernel : (mx_tt 205).all (fun a => a.all (fun b => b.all (mx_chk 205))) = true)
set_option maxRecDepth 100000 in
theorem mx_chk206 : mx_chkA 206 := (by decide +kernel : (mx_tt 206).all (fun a => a.all (fun b => b.all (mx_chk 206))) = true)
set_option maxRecDepth 100000 in
theorem mx_chk207 : mx_chkA 207 := (by decide +kernel : (mx_tt 207).all (fun a => a.all (fun b => b.all (mx_chk 207))) = true)
set_option maxRecDepth 100000 in
theorem mx_chk208 : mx_chkA 208 := (by decide +kernel : (mx_tt 208).all (fun a => a.all (fun b => b.all (mx_chk 208))) = true)
set_option maxRecDepth 100000 in
theorem mx_chk209 : mx_chkA 209 := (by decide +kernel : (mx_tt 209).all (fun a => a.all (fun b => b.all (mx_chk 209))) = true)
set_option maxRecDepth 100000 in
theorem mx_chk210 : mx_chkA 210 := (by decide +kernel : (mx_tt 210).all (fun a => a.all (fun b => b.all (mx_chk 210))) = true)
set_option maxRecDepth 100000 in
theorem mx_chk211 : mx_chkA 211 := (by decide +kernel : (mx_tt 211).all (fun a => a.all (fun b => b.all (mx_chk 211))) = true)
set_option maxRecDepth 100000 in
theorem mx_chk212 : mx_chkA 212 := (by decide +kernel : (mx_tt 212).all (fun a => a.all (fun b => b.all (mx_chk 212))) = true)
set_option maxRecDepth 100000 in
theorem mx_chk213 : mx_chkA 213 := (by decide +kernel : (mx_tt 213).all (fun a => a.all (fun b => b.all (mx_chk 213))) = true)
set_option maxRecDepth 100000 in
theorem mx_chk214_0 : mx_t214_0.all (fun b => b.all (mx_chk 214)) = true := by decide +kernel
set_option maxRecDepth 100000 in
theorem mx_chk214_1 : mx_t214_1.all (fun b => b.all (mx_chk 214)) = true := by decide +kernel
set_option maxRecDepth 100000 in
theorem mx_chk214_2 : mx_t214_2.all (fun b => b.all (mx_chk 214)) = true := by decide +kernel
set_option maxRecDepth 100000 in
theorem mx_chk214_3 : mx_t214_3.all (fun b => b.all (mx_chk 214)) = true := by decide +kernel
set_option maxRecDepth 100000 in
theorem mx_chk214_4 : mx_t214_4.all (fun b => b.all (mx_chk 214)) = true := by decide +kernel
set_option maxRecDepth 100000 in
theorem mx_chk214_5 : mx_t214_5.all (fun b => b.all (mx_chk 214)) = true := by decide +kernel
set_option maxRecDepth 100000 in
theorem mx_chk214_6 : mx_t214_6.all (fun b => b.all (mx_chk 214)) = true := by decide +kernel
set_option maxRecDepth 100000 in
theorem mx_chk214_7 : mx_t214_7.all (fun b => b.all (mx_chk 214)) = true := by decide +kernel
set_option maxRecDepth 100000 in
theorem mx_chk214_8 : mx_t214_8.all (fun b => b.all (mx_chk 214)) = true := by decide +kernel
set_option maxRecDepth 100000 in
theorem mx_chk214_9 : mx_t214_9.all (fun b => b.all (mx_chk 214)) = true := by decide +kernel
theorem mx_chk214 : mx_chkA 214 := by
  show ([mx_t214_0, mx_t214_1, mx_t214_2, mx_t214_3, mx_t214_4, mx_t214_5, mx_t214_6, mx_t214_7, mx_t214_8, mx_t214_9] : List _).all (fun a => a.all (fun b => b.all (mx_chk 214))) = true
  simp only [List.all_cons, List.all_nil, mx_chk214_0, mx_chk214_1, mx_chk214_2, mx_chk214_3, mx_chk214_4, mx_chk214_5, mx_chk214_6, mx_chk214_7, mx_chk214_8, mx_chk214_9, Bool.and_self]
set_option maxRecDepth 100000 in
theorem mx_chkA_0 : ∀ k, k < 40 → mx_chkA k := lt_s (lt_s (lt_s (lt_s (lt_s (lt_s (lt_s (lt_s (lt_s (lt_s (lt_s (lt_s (lt_s (lt_s (lt_s (lt_s (lt_s (lt_s (lt_s (lt_s (lt_s (lt_s (lt_s (lt_s (lt_s (lt_s (lt_s (lt_s (lt_s (lt_s (lt_s (lt_s (lt_s (lt_s (lt_s (lt_s (lt_s (lt_s (lt_s (lt_s (lt_0) mx_chk0) mx_chk1) mx_chk2) mx_chk3) mx_chk4) mx_chk5) mx_chk6) mx_chk7) mx_chk8) mx_chk9) mx_chk10) mx_chk11) mx_chk12) mx_chk13) mx_chk14) mx_chk15) mx_chk16) mx_chk17) mx_chk18) mx_chk19) mx_chk20) mx_chk21) mx_chk22) mx_chk23) mx_chk24) mx_chk25) mx_chk26) mx_chk27) mx_chk28) mx_chk29) mx_chk30) mx_chk31) mx_chk32) mx_chk33) mx_chk34) mx_chk35) mx_chk36) mx_chk37) mx_chk38) mx_chk39
set_option maxRecDepth 100000 in
theorem mx_chkA_1 : ∀ k, k < 80 → mx_chkA k := lt_s (lt_s (lt_s (lt_s (lt_s (lt_s (lt_s (lt_s (lt_s (lt_s (lt_s (lt_s (lt_s (lt_s (lt_s (lt_s (lt_s (lt_s (lt_s (lt_s (lt_s (lt_s (lt_s (lt_s (lt_s (lt_s (lt_s (lt_s (lt_s (lt_s (lt_s (lt_s (lt_s (lt_s (lt_s (lt_s (lt_s (lt_s (lt_s (lt_s (mx_chkA_0) mx_chk40) mx_chk41) mx_chk42) mx_chk43) mx_chk44) mx_chk45) mx_chk46) mx_chk47) mx_chk48) mx_chk49) mx_chk50) mx_chk51) mx_chk52) mx_chk53) mx_chk54) mx_chk55) mx_chk56) mx_chk57) mx_chk58) mx_chk59) mx_chk60) mx_chk61) mx_chk62) mx_chk63) mx_chk64) mx_chk65) mx_chk66) mx_chk67) mx_chk68) mx_chk69) mx_chk70) mx_chk71) mx_chk72) mx_chk73) mx_chk74) mx_chk75) mx_chk76) mx_chk77) mx_chk78) mx_chk79
set_option maxRecDepth 100000 in
theorem mx_chkA_2 : ∀ k, k < 120 → mx_chkA k := lt_s (lt_s (lt_s (lt_s (lt_s (lt_s (lt_s (lt_s (lt_s (lt_s (lt_s (lt_s (lt_s (lt_s (lt_s (lt_s (lt_s (lt_s (lt_s (lt_s (lt_s (lt_s (lt_s (lt_s (lt_s (lt_s (lt_s (lt_s (lt_s (lt_s (lt_s (lt_s (lt_s (lt_s (lt_s (lt_s (lt_s (lt_s (lt_s (lt_s (mx_chkA_1) mx_chk80) mx_chk81) mx_chk82) mx_chk83) mx_chk84) mx_chk85) mx_chk86) mx_chk87) mx_chk88) mx_chk89) mx_chk90) mx_chk91) mx_chk92) mx_chk93) mx_chk94) mx_chk95) mx_chk96) mx_chk97) mx_chk98) mx_chk99) mx_chk100) mx_chk101) mx_chk102) mx_chk103) mx_chk104) mx_chk105) mx_chk106) mx_chk107) mx_chk108) mx_chk109) mx_chk110) mx_chk111) mx_chk112) mx_chk113) mx_chk114) mx_chk115) mx_chk116) mx_chk117) mx_chk118) mx_chk119
set_option maxRecDepth 100000 in
theorem mx_chkA_3 : ∀ k, k < 160 → mx_chkA k := lt_s (lt_s (lt_s (lt_s (lt_s (lt_s (lt_s (lt_s (lt_s (lt_s (lt_s (lt_s (lt_s (lt_s (lt_s (lt_s (lt_s (lt_s (lt_s (lt_s (lt_s (lt_s (lt_s (lt_s (lt_s (lt_s (lt_s (lt_s (lt_s (lt_s (lt_s (lt_s (lt_s (lt_s (lt_s (lt_s (lt_s (lt_s (lt_s (lt_s (mx_chkA_2) mx_chk120) mx_chk121) mx_chk122) mx_chk123) mx_chk124) mx_chk125) mx_chk126) mx_chk127) mx_chk128) mx_chk129) mx_chk130) mx_chk131) mx_chk132) mx_chk133) mx_chk134) mx_chk135) mx_chk136) mx_chk137) mx_chk138) mx_chk139) mx_chk140) mx_chk141) mx_chk142) mx_chk143) mx_chk144) mx_chk145) mx_chk146) mx_chk147) mx_chk148) mx_chk149) mx_chk150) mx_chk151) mx_chk152) mx_chk153) mx_chk154) mx_chk155) mx_chk156) mx_chk157) mx_chk158) mx_chk159
set_option maxRecDepth 100000 in
theorem mx_chkA_4 : ∀ k, k < 200 → mx_chkA k := lt_s (lt_s (lt_s (lt_s (lt_s (lt_s (lt_s (lt_s (lt_s (lt_s (lt_s (lt_s (lt_s (lt_s (lt_s (lt_s (lt_s (lt_s (lt_s (lt_s (lt_s (lt_s (lt_s (lt_s (lt_s (lt_s (lt_s (lt_s (lt_s (lt_s (lt_s (lt_s (lt_s (lt_s (lt_s (lt_s (lt_s (lt_s (lt_s (lt_s (mx_chkA_3) mx_chk160) mx_chk161) mx_chk162) mx_chk163) mx_chk164) mx_chk165) mx_chk166) mx_chk167) mx_chk168) mx_chk169) mx_chk170) mx_chk171) mx_chk172) mx_chk173) mx_chk174) mx_chk175) mx_chk176) mx_chk177) mx_chk178) mx_chk179) mx_chk180) mx_chk181) mx_chk182) mx_chk183) mx_chk184) mx_chk185) mx_chk186) mx_chk187) mx_chk188) mx_chk189) mx_chk190) mx_chk191) mx_chk192) mx_chk193) mx_chk194) mx_chk195) mx_chk196) mx_chk197) mx_chk198) mx_chk199
set_option maxRecDepth 100000 in
theorem mx_chkA_5 : ∀ k, k < 215 → mx_chkA k := lt_s (lt_s (lt_s (lt_s (lt_s (lt_s (lt_s (lt_s (lt_s (lt_s (lt_s (lt_s (lt_s (lt_s (lt_s (mx_chkA_4) mx_chk200) mx_chk201) mx_chk202) mx_chk203) mx_chk204) mx_chk205) mx_chk206) mx_chk207) mx_chk208) mx_chk209) mx_chk210) mx_chk211) mx_chk212) mx_chk213) mx_chk214
theorem mx_chk_lt : ∀ k, k < 215 → mx_chkA k := mx_chkA_5
